/-! where, pile, as -/
section OP
variable {d n k c s a b r u o i rel κ lr t : Nat} {μ μ' : sM} {Q : sQ} {so wt : Nat → Nat} {T T' : tT} {tb : Nat → tT} {x y z w v : Int32} {ξ : Nat → Nat → Int32}
theorem kd_lt : kdT so n T k < 6 := by
  have := tB_le (P := shT so n T k)
  unfold kdT
  split
  · omega
  · split
    · omega
    · split <;> omega
theorem INV.f0 (h : INV ξ μ) : INV ξ (m_i (m_i (m_i μ 0 0 11 0) 41 0 0 0) 41 0 1 0) := by
  refine h.sh (((frm.rf.mi (by unfold fS' fT fO fS fR fN fP fX fF fL; omega)).mi (by unfold fS' fT fO fS fR fN fP fX fF fL; omega)).mi (by unfold fS' fT fO fS fR fN fP fX fF fL; omega)) rfl ?_ rfl
  exact h.sg.fr (((frm.rf.mi (by unfold fS; omega)).mi (by unfold fS; omega)).mi (by unfold fS; omega))
theorem m9_v {p : Nat} (hp : p = 9 ∨ p < 6) : (m9 p < 0 ↔ p = 9) ∧ (0 ≤ m9 p ↔ p ≠ 9) := by
  unfold m9
  by_cases e : p = 9
  · rw [if_pos e]; exact ⟨⟨fun _ => e, fun _ => by decide⟩, ⟨fun z => absurd z (by decide), fun z => absurd e z⟩⟩
  · rw [if_neg e]
    refine ⟨⟨fun z => absurd z (by simp (disch := first | omega | (simp (disch := omega) only [nI_toInt, Int32.reduceToInt, i_sub, i_add, i_mul]; omega)) only [iNONE, i_lt, i_le, i_eq, i_in, nI_toInt, Int32.reduceToInt, i_sub, i_add, i_mul]; omega), fun z => absurd z e⟩, ⟨fun _ => e, fun _ => (by simp (disch := first | omega | (simp (disch := omega) only [nI_toInt, Int32.reduceToInt, i_sub, i_add, i_mul]; omega)) only [iNONE, i_lt, i_le, i_eq, i_in, nI_toInt, Int32.reduceToInt, i_sub, i_add, i_mul]; omega)⟩⟩
theorem r12_where0 (hw : wfT so n T) (hS : stkR (m_i μ 41 0 0 0) n so wt) (hT : tabR (m_i μ 41 0 0 0) 0 T) (hk : k < n) (ha : a < 7) (h : Run k12_where (Call (d + 19)) Q 43 [some (sR 41 0), some (sI (nI k)), some (sI (nI a)), some (sI (nI (tB (zB T k ≠ 9))))] [] (m_i μ 41 0 0 0)) : Call (d + 20) n12_where [sR 41 0, sI (nI k), sI (nI a)] μ Q := by
  have hn := hS.2.1
  have hb := wf_bx hw hk
  refine call_go (cd := k12_where) 7 rfl rfl ?_
  refine r12_thingY hS hk ?_
  refine brF (by decide) ?_
  refine run_go 6 ?_
  refine r12_inN (b := 7) (by decide) (fun _ _ _ => ?_) (fun q => by rw [nI_toInt (by omega)] at q; omega)
  refine brnF (by decide) ?_
  refine run_go 5 ?_
  refine r12_boxOf (r := 0) rfl rfl (by decide) hT (by omega) ?_
  by_cases e : zB T k = 9
  · refine brT (by rw [e]; decide) ?_
    rw [tB_f (fun z => z e)] at h
    refine run_go 2 ?_
    exact h
  · refine brF (by rw [m9_n e]; exact (by simp (disch := first | omega | (simp (disch := omega) only [nI_toInt, Int32.reduceToInt, i_sub, i_add, i_mul]; omega)) only [iNONE, i_lt, i_le, i_eq, i_in, nI_toInt, Int32.reduceToInt, i_sub, i_add, i_mul]; omega)) ?_
    rw [tB_t e] at h
    refine run_go 3 ?_
    exact h
theorem op_where (hI : INV ξ μ) (h : ∀ v μ', opQ ξ (d + 20) n12_where [sR 41 0, sI x, sI y] v μ' → Q v 0 (0, 0) μ') : Call (d + 20) n11_where [sR 0 0, sI x, sI y] μ Q := by
  have hI0 := hI
  obtain ⟨n, so, wt, κ, tb, lr, h1, h2, h3⟩ := hI0
  have g1 : tbG (m_i μ 41 0 0 0) n so wt κ tb := h1.fr (frm.rf.mi (by unfold fT; omega))
  have hw := h1.2.2.2.2.2.1 0 (Nat.zero_le _)
  have hC := h1.2.2.2.2.2.2.1
  have hS := h1.1
  have hn := hS.2.1
  have gS := g1.2.1
  have gR := g1.2.2.2.2.2.2.2.2 0 (Nat.zero_le _)
  generalize tb 0 = T at hw hC gR
  refine call_go (cd := k11_where) 60 rfl rfl ?_
  refine c8_knows hS (fun k hk e => ?_) (fun e => ?_)
  · subst e
    refine brnF (by decide) ?_
    have hb := wf_bx hw hk
    by_cases hy : ∃ a, a < 7 ∧ y = nI a
    · obtain ⟨a, ha, rfl⟩ := hy
      rcases (by omega : a = 0 ∨ a = 1 ∨ a = 2 ∨ a = 3 ∨ a = 4 ∨ a = 5 ∨ a = 6) with rfl | rfl | rfl | rfl | rfl | rfl | rfl
      · (refine brT (by decide) ?_)
        refine c8_sortOf rfl hS hk ?_
        refine h _ _ (fun Q hq => r12_where0 hw gS gR hk (by omega) ?_)
        refine run_go 40 ?_
        (refine brT (by decide) ?_)
        refine And.intro (by simp (disch := first | omega | (simp (disch := omega) only [nI_toInt, Int32.reduceToInt, i_sub, i_add, i_mul]; omega)) only [iNONE, i_lt, i_le, i_eq, i_in, nI_toInt, Int32.reduceToInt, i_sub, i_add, i_mul]; omega) ?_
        rw [nI_clamp (by omega), (gS.2.2 k hk).1]
        exact hq _ hI.th
      · (refine brF (by decide) ?_; refine brT (by decide) ?_)
        refine c8_weightOf rfl hS hk ?_
        refine h _ _ (fun Q hq => r12_where0 hw gS gR hk (by omega) ?_)
        refine run_go 40 ?_
        (refine brF (by decide) ?_; refine brT (by decide) ?_)
        refine And.intro (by simp (disch := first | omega | (simp (disch := omega) only [nI_toInt, Int32.reduceToInt, i_sub, i_add, i_mul]; omega)) only [iNONE, i_lt, i_le, i_eq, i_in, nI_toInt, Int32.reduceToInt, i_sub, i_add, i_mul]; omega) ?_
        rw [nI_clamp (by omega), (gS.2.2 k hk).2.1]
        exact hq _ hI.th
      · (refine brF (by decide) ?_; refine brF (by decide) ?_; refine brT (by decide) ?_)
        refine c9_cellOf rfl hw hn hC hk ?_
        refine h _ _ (fun Q hq => r12_where0 hw gS gR hk (by omega) ?_)
        refine run_go 40 ?_
        (refine brF (by decide) ?_; refine brF (by decide) ?_; refine brT (by decide) ?_)
        refine r12_cellOf (r := 0) rfl rfl hw hn (by decide) gR hk ?_
        exact hq _ hI.th
      · (refine brF (by decide) ?_; refine brF (by decide) ?_; refine brF (by decide) ?_; refine brT (by decide) ?_)
        refine c9_boxOf rfl hw hn hC hk ?_
        by_cases e : zB T k = 9
        · refine brnT (by rw [e]; rfl) ?_
          refine c9_depthOf rfl hw hn hC hk ?_
          refine h _ _ (fun Q hq => r12_where0 hw gS gR hk (by omega) ?_)
          refine run_go 40 ?_
          (refine brF (by decide) ?_; refine brF (by decide) ?_; refine brF (by decide) ?_; refine brT (by decide) ?_)
          refine brT (by rw [tB_f (fun z => z e)]; rfl) ?_
          refine r12_below (r := 0) rfl rfl hw hn (by decide) gR hk e ?_
          rw [show dpT T k = zI T k from if_pos e] at hq
          exact hq _ hI.th
        · refine brnF (by rw [show (-1000000 : Int32) = nONE from rfl, o9_none (by omega)]; exact e) ?_
          refine h _ _ (fun Q hq => r12_where0 hw gS gR hk (by omega) ?_)
          refine run_go 40 ?_
          (refine brF (by decide) ?_; refine brF (by decide) ?_; refine brF (by decide) ?_; refine brT (by decide) ?_)
          refine brF (by rw [tB_t e]; decide) ?_
          exact hq _ hI.th
      · (refine brF (by decide) ?_; refine brF (by decide) ?_; refine brF (by decide) ?_; refine brF (by decide) ?_; refine brT (by decide) ?_)
        refine c9_boxOf rfl hw hn hC hk ?_
        refine h _ _ (fun Q hq => r12_where0 hw gS gR hk (by omega) ?_)
        refine run_go 40 ?_
        (refine brF (by decide) ?_; refine brF (by decide) ?_; refine brF (by decide) ?_; refine brF (by decide) ?_; refine brT (by decide) ?_)
        by_cases e : zB T k = 9
        · refine brT (by rw [tB_f (fun z => z e)]; rfl) ?_
          rw [e] at hq
          exact hq _ hI.th
        · refine brF (by rw [tB_t e]; decide) ?_
          refine r12_boxOf (r := 0) rfl rfl (by decide) gR (by omega) ?_
          rw [o9_n e] at hq
          rw [m9_n e]
          exact hq _ hI.th
      · (refine brF (by decide) ?_; refine brF (by decide) ?_; refine brF (by decide) ?_; refine brF (by decide) ?_; refine brF (by decide) ?_; refine brT (by decide) ?_)
        refine c9_isClear rfl hw hn hC hk (fun e => ?_) (fun e => ?_)
        · refine brF (by decide) ?_
          refine h _ _ (fun Q hq => r12_where0 hw gS gR hk (by omega) ?_)
          refine run_go 40 ?_
          (refine brF (by decide) ?_; refine brF (by decide) ?_; refine brF (by decide) ?_; refine brF (by decide) ?_; refine brF (by decide) ?_; refine brT (by decide) ?_)
          refine r12_isClear (r := 0) rfl rfl hw hn (by decide) gR hk (fun _ => ?_) (fun z => absurd e z)
          refine brF (by decide) ?_
          exact hq _ hI.th
        · refine brT rfl ?_
          refine h _ _ (fun Q hq => r12_where0 hw gS gR hk (by omega) ?_)
          refine run_go 40 ?_
          (refine brF (by decide) ?_; refine brF (by decide) ?_; refine brF (by decide) ?_; refine brF (by decide) ?_; refine brF (by decide) ?_; refine brT (by decide) ?_)
          refine r12_isClear (r := 0) rfl rfl hw hn (by decide) gR hk (fun z => absurd z e) (fun _ => ?_)
          refine brT rfl ?_
          exact hq _ hI.th
      · (refine brF (by decide) ?_; refine brF (by decide) ?_; refine brF (by decide) ?_; refine brF (by decide) ?_; refine brF (by decide) ?_; refine brF (by decide) ?_; refine brT (by decide) ?_)
        refine c9_insideOf rfl (by omega) ?_
        rw [hC.2.2.1 k (by omega)]
        refine h _ _ (fun Q hq => r12_where0 hw gS gR hk (by omega) ?_)
        have hN : zN T k = 9 ∨ zN T k < 6 := by
          by_cases e : zN T k = 9
          · exact Or.inl e
          · have := (hw.2.2.2.1 k hk e).1; omega
        refine run_go 40 ?_
        (refine brF (by decide) ?_; refine brF (by decide) ?_; refine brF (by decide) ?_; refine brF (by decide) ?_; refine brF (by decide) ?_; refine brF (by decide) ?_)
        refine r12_insideOf (r := 0) rfl rfl hw gS (by decide) gR hk ?_
        by_cases e : zN T k = 9
        · refine brF (by rw [(m9_v hN).2]; exact fun z => z e) ?_
          rw [e] at hq
          exact hq _ hI.th
        · refine brT (by rw [(m9_v hN).2]; exact e) ?_
          refine r12_insideOf (r := 0) rfl rfl hw gS (by decide) gR hk ?_
          rw [o9_n e] at hq
          rw [m9_n e]
          exact hq _ hI.th
    · (refine brF (fun e => hy ⟨0, by decide, e.trans (by decide)⟩) ?_; refine brF (fun e => hy ⟨1, by decide, e.trans (by decide)⟩) ?_; refine brF (fun e => hy ⟨2, by decide, e.trans (by decide)⟩) ?_; refine brF (fun e => hy ⟨3, by decide, e.trans (by decide)⟩) ?_; refine brF (fun e => hy ⟨4, by decide, e.trans (by decide)⟩) ?_; refine brF (fun e => hy ⟨5, by decide, e.trans (by decide)⟩) ?_; refine brF (fun e => hy ⟨6, by decide, e.trans (by decide)⟩) ?_)
      refine h _ _ (fun Q hq => ?_)
      refine call_go (cd := k12_where) 60 rfl rfl ?_
      refine r12_thingY gS hk ?_
      refine brF (by decide) ?_
      refine r12_inN (b := 7) (by decide) (fun a ha e => absurd ⟨a, ha, e⟩ hy) (fun q => ?_)
      refine brnT rfl ?_
      exact hq _ hI.th
  · refine brnT rfl ?_
    refine h _ _ (fun Q hq => ?_)
    refine call_go (cd := k12_where) 60 rfl rfl ?_
    refine r12_thingN gS e ?_
    refine brT rfl ?_
    exact hq _ hI.th
theorem op_pile (hI : INV ξ μ) (h : ∀ v μ', opQ ξ (d + 20) n12_pile [sR 41 0, sI x, sI y] v μ' → Q v 0 (0, 0) μ') : Call (d + 20) n11_pile [sR 0 0, sI x, sI y] μ Q := by
  have hI0 := hI
  obtain ⟨n, so, wt, κ, tb, lr, h1, h2, h3⟩ := hI0
  have g1 : tbG (m_i μ 41 0 0 0) n so wt κ tb := h1.fr (frm.rf.mi (by unfold fT; omega))
  have hw := h1.2.2.2.2.2.1 0 (Nat.zero_le _)
  have hC := h1.2.2.2.2.2.2.1
  have hS := h1.1
  have hn := hS.2.1
  have gR := g1.2.2.2.2.2.2.2.2 0 (Nat.zero_le _)
  have ry := i_rng y
  generalize tb 0 = T at hw hC gR
  refine call_go (cd := k11_pile) 60 rfl rfl ?_
  refine c11_within (b := 8) rfl (by decide) (fun c hc e => ?_) (fun e => ?_)
  · subst e
    have hz := wf_size hw hc
    refine brF (by decide) ?_
    by_cases c1 : y.toInt < -1
    · refine brF (by simp (disch := first | omega | (simp (disch := omega) only [nI_toInt, Int32.reduceToInt, i_sub, i_add, i_mul]; omega)) only [iNONE, i_lt, i_le, i_eq, i_in, nI_toInt, Int32.reduceToInt, i_sub, i_add, i_mul]; omega) ?_
      refine h _ _ (fun Q hq => ?_)
      refine call_go (cd := k12_pile) 60 rfl rfl ?_
      refine r12_isCell (fun _ _ _ => ?_) (fun q => by rw [nI_toInt (by omega)] at q; omega)
      refine brF (by decide) ?_
      refine brF (by simp (disch := first | omega | (simp (disch := omega) only [nI_toInt, Int32.reduceToInt, i_sub, i_add, i_mul]; omega)) only [iNONE, i_lt, i_le, i_eq, i_in, nI_toInt, Int32.reduceToInt, i_sub, i_add, i_mul]; omega) ?_
      exact hq _ hI.th
    · refine brT (by simp (disch := first | omega | (simp (disch := omega) only [nI_toInt, Int32.reduceToInt, i_sub, i_add, i_mul]; omega)) only [iNONE, i_lt, i_le, i_eq, i_in, nI_toInt, Int32.reduceToInt, i_sub, i_add, i_mul]; omega) ?_
      by_cases c2 : y = -1
      · refine brnT c2 ?_
        refine c9_heightOf rfl hw hn hC hc ?_
        refine h _ _ (fun Q hq => ?_)
        refine call_go (cd := k12_pile) 60 rfl rfl ?_
        refine r12_isCell (fun _ _ _ => ?_) (fun q => by rw [nI_toInt (by omega)] at q; omega)
        refine brF (by decide) ?_
        refine brT (by simp (disch := first | omega | (simp (disch := omega) only [nI_toInt, Int32.reduceToInt, i_sub, i_add, i_mul]; omega)) only [iNONE, i_lt, i_le, i_eq, i_in, nI_toInt, Int32.reduceToInt, i_sub, i_add, i_mul]; omega) ?_
        refine brnT c2 ?_
        refine r12_sizeOf (r := 0) rfl rfl (by decide) hc ?_
        rw [gR.1 c hc]
        exact hq _ hI.th
      · refine brnF c2 ?_
        have c3 : 0 ≤ y.toInt := by
          have : y.toInt ≠ -1 := fun z => c2 (i_eq.mpr (by rw [z]; decide))
          omega
        refine c9_foundAt rfl hw hS hC hc (fun i hi e => ?_) (fun e => ?_)
        · subst e
          refine h _ _ (fun Q hq => ?_)
          refine call_go (cd := k12_pile) 60 rfl rfl ?_
          refine r12_isCell (fun _ _ _ => ?_) (fun q => by rw [nI_toInt (by omega)] at q; omega)
          refine brF (by decide) ?_
          refine brT (by simp (disch := first | omega | (simp (disch := omega) only [nI_toInt, Int32.reduceToInt, i_sub, i_add, i_mul]; omega)) only [iNONE, i_lt, i_le, i_eq, i_in, nI_toInt, Int32.reduceToInt, i_sub, i_add, i_mul]; omega) ?_
          refine brnF c2 ?_
          refine r12_sizeOf (r := 0) rfl rfl (by decide) hc ?_
          rw [gR.1 c hc]
          refine brF (by simp (disch := first | omega | (simp (disch := omega) only [nI_toInt, Int32.reduceToInt, i_sub, i_add, i_mul]; omega)) only [iNONE, i_lt, i_le, i_eq, i_in, nI_toInt, Int32.reduceToInt, i_sub, i_add, i_mul]; omega) ?_
          refine r12_thingAt (r := 0) rfl rfl rfl (by decide) hc (by omega) ?_
          rw [gR.2.1 c i hc (by omega), if_pos hi]
          exact hq _ hI.th
        · refine h _ _ (fun Q hq => ?_)
          have c4 : (zS T c : Int) ≤ y.toInt := by
            refine Classical.byContradiction (fun z => ?_)
            obtain ⟨i, hi, ei⟩ := nI_ofB (x := y) (b := zS T c) c3 (by omega)
            exact e i hi ei
          refine call_go (cd := k12_pile) 60 rfl rfl ?_
          refine r12_isCell (fun _ _ _ => ?_) (fun q => by rw [nI_toInt (by omega)] at q; omega)
          refine brF (by decide) ?_
          refine brT (by simp (disch := first | omega | (simp (disch := omega) only [nI_toInt, Int32.reduceToInt, i_sub, i_add, i_mul]; omega)) only [iNONE, i_lt, i_le, i_eq, i_in, nI_toInt, Int32.reduceToInt, i_sub, i_add, i_mul]; omega) ?_
          refine brnF c2 ?_
          refine r12_sizeOf (r := 0) rfl rfl (by decide) hc ?_
          rw [gR.1 c hc]
          refine brT (by simp (disch := first | omega | (simp (disch := omega) only [nI_toInt, Int32.reduceToInt, i_sub, i_add, i_mul]; omega)) only [iNONE, i_lt, i_le, i_eq, i_in, nI_toInt, Int32.reduceToInt, i_sub, i_add, i_mul]; omega) ?_
          exact hq _ hI.th
  · refine brT rfl ?_
    refine h _ _ (fun Q hq => ?_)
    refine call_go (cd := k12_pile) 60 rfl rfl ?_
    refine r12_isCell (fun c hc e2 => by subst e2; rw [nI_toInt (by omega)] at e; omega) (fun q => ?_)
    refine brT rfl ?_
    exact hq _ hI.th
theorem op_as (hI : INV ξ μ) (h : ∀ v μ', opQ ξ (d + 20) n12_as [sR 41 0, sI x, sI y] v μ' → Q v 0 (0, 0) μ') : Call (d + 20) n11_as [sR 0 0, sI x, sI y] μ Q := by
  have hI0 := hI
  obtain ⟨n, so, wt, κ, tb, lr, h1, h2, h3⟩ := hI0
  have g1 : tbG (m_i μ 41 0 0 0) n so wt κ tb := h1.fr (frm.rf.mi (by unfold fT; omega))
  have hw := h1.2.2.2.2.2.1 0 (Nat.zero_le _)
  have hC := h1.2.2.2.2.2.2.1
  have hS := h1.1
  have hn := hS.2.1
  refine call_go (cd := k11_as) 80 rfl rfl ?_
  refine c8_knows hS (fun k hk e => ?_) (fun e => ?_)
  · subst e
    refine brF (by decide) ?_
    refine c11_within (b := 6) rfl (by decide) (fun a ha e => ?_) (fun e => ?_)
    · subst e
      refine brnF (by decide) ?_
      refine c9_kindOf rfl hw hS hC hk ?_
      have hK := kd_lt (so := so) (n := n) (T := tb 0) (k := k)
      have hF : ¬ (a = 0 ∨ kdT so n (tb 0) k = a ∨ a = 3 ∧ kdT so n (tb 0) k = 4) → Q (-1000013) 0 (0, 0) (m_i μ 0 0 11 3) := by
        intro hz
        refine h _ _ (fun Q hq => ?_)
        have g1 : tbG (m_i (m_i (m_i μ 0 0 11 3) 41 0 0 0) 41 0 1 0) n so wt κ tb := h1.fr (((frm.rf.mi (by unfold fT; omega)).mi (by unfold fT; omega)).mi (by unfold fT; omega))
        have g0 : stkR (m_i (m_i μ 0 0 11 3) 41 0 0 0) n so wt := h1.2.1.fr ((frm.rf.mi (by unfold fT; omega)).mi (by unfold fT; omega))
        refine call_go (cd := k12_as) 60 rfl rfl ?_
        refine r12_thingY g0 hk ?_
        refine brF (by decide) ?_
        refine r12_inN (b := 6) (by decide) (fun _ _ _ => ?_) (fun q => by rw [nI_toInt (by omega)] at q; omega)
        refine brnF (by decide) ?_
        refine r12_kindOf rfl hw g1.2.1 (g1.2.2.2.2.2.2.2.2 0 (Nat.zero_le _)) hk ?_
        generalize kdT so n (tb 0) k = K at hK hz ⊢
        refine call_go (cd := k12_isOf) 60 rfl rfl ?_
        have hf := hq _ (hI.find (x := 3) (y := 3) rfl)
        refine brF (by simp (disch := first | omega | (simp (disch := omega) only [nI_toInt, Int32.reduceToInt, i_sub, i_add, i_mul]; omega)) only [iNONE, i_lt, i_le, i_eq, i_in, nI_toInt, Int32.reduceToInt, i_sub, i_add, i_mul]; omega) ?_
        refine brF (by simp (disch := first | omega | (simp (disch := omega) only [nI_toInt, Int32.reduceToInt, i_sub, i_add, i_mul]; omega)) only [iNONE, i_lt, i_le, i_eq, i_in, nI_toInt, Int32.reduceToInt, i_sub, i_add, i_mul]; omega) ?_
        by_cases c3 : a = 3
        · refine brnT (by simp (disch := first | omega | (simp (disch := omega) only [nI_toInt, Int32.reduceToInt, i_sub, i_add, i_mul]; omega)) only [iNONE, i_lt, i_le, i_eq, i_in, nI_toInt, Int32.reduceToInt, i_sub, i_add, i_mul]; omega) ?_
          refine brnF (by simp (disch := first | omega | (simp (disch := omega) only [nI_toInt, Int32.reduceToInt, i_sub, i_add, i_mul]; omega)) only [iNONE, i_lt, i_le, i_eq, i_in, nI_toInt, Int32.reduceToInt, i_sub, i_add, i_mul]; omega) ?_
          refine ⟨Or.inl rfl, ?_⟩
          refine brT rfl ?_
          refine r12_finding ?_
          exact hf
        · refine brnF (by simp (disch := first | omega | (simp (disch := omega) only [nI_toInt, Int32.reduceToInt, i_sub, i_add, i_mul]; omega)) only [iNONE, i_lt, i_le, i_eq, i_in, nI_toInt, Int32.reduceToInt, i_sub, i_add, i_mul]; omega) ?_
          refine ⟨Or.inl rfl, ?_⟩
          refine brT rfl ?_
          refine r12_finding ?_
          exact hf
      have hY : (a = 0 ∨ kdT so n (tb 0) k = a ∨ a = 3 ∧ kdT so n (tb 0) k = 4) → Q (nI (wt k)) 0 (0, 0) (m_i μ 0 0 11 0) := by
        intro hz
        refine h _ _ (fun Q hq => ?_)
        have g1 : tbG (m_i (m_i (m_i μ 0 0 11 0) 41 0 0 0) 41 0 1 0) n so wt κ tb := h1.fr (((frm.rf.mi (by unfold fT; omega)).mi (by unfold fT; omega)).mi (by unfold fT; omega))
        have g0 : stkR (m_i (m_i μ 0 0 11 0) 41 0 0 0) n so wt := h1.2.1.fr ((frm.rf.mi (by unfold fT; omega)).mi (by unfold fT; omega))
        refine call_go (cd := k12_as) 60 rfl rfl ?_
        refine r12_thingY g0 hk ?_
        refine brF (by decide) ?_
        refine r12_inN (b := 6) (by decide) (fun _ _ _ => ?_) (fun q => by rw [nI_toInt (by omega)] at q; omega)
        refine brnF (by decide) ?_
        refine r12_kindOf rfl hw g1.2.1 (g1.2.2.2.2.2.2.2.2 0 (Nat.zero_le _)) hk ?_
        generalize kdT so n (tb 0) k = K at hK hz ⊢
        refine call_go (cd := k12_isOf) 60 rfl rfl ?_
        have hf := hq _ hI.f0
        have gw := (g1.2.1.2.2 k hk).2.1
        by_cases c1 : a = 0
        · refine brT (by simp (disch := first | omega | (simp (disch := omega) only [nI_toInt, Int32.reduceToInt, i_sub, i_add, i_mul]; omega)) only [iNONE, i_lt, i_le, i_eq, i_in, nI_toInt, Int32.reduceToInt, i_sub, i_add, i_mul]; omega) ?_
          refine ⟨Or.inr rfl, ?_⟩
          refine brF (by decide) ?_
          refine And.intro (by simp (disch := first | omega | (simp (disch := omega) only [nI_toInt, Int32.reduceToInt, i_sub, i_add, i_mul]; omega)) only [iNONE, i_lt, i_le, i_eq, i_in, nI_toInt, Int32.reduceToInt, i_sub, i_add, i_mul]; omega) ?_
          rw [nI_clamp (by omega), gw]
          exact hf
        · refine brF (by simp (disch := first | omega | (simp (disch := omega) only [nI_toInt, Int32.reduceToInt, i_sub, i_add, i_mul]; omega)) only [iNONE, i_lt, i_le, i_eq, i_in, nI_toInt, Int32.reduceToInt, i_sub, i_add, i_mul]; omega) ?_
          by_cases c2 : K = a
          · refine brT (by rw [c2]) ?_
            refine ⟨Or.inr rfl, ?_⟩
            refine brF (by decide) ?_
            refine And.intro (by simp (disch := first | omega | (simp (disch := omega) only [nI_toInt, Int32.reduceToInt, i_sub, i_add, i_mul]; omega)) only [iNONE, i_lt, i_le, i_eq, i_in, nI_toInt, Int32.reduceToInt, i_sub, i_add, i_mul]; omega) ?_
            rw [nI_clamp (by omega), gw]
            exact hf
          · refine brF (by simp (disch := first | omega | (simp (disch := omega) only [nI_toInt, Int32.reduceToInt, i_sub, i_add, i_mul]; omega)) only [iNONE, i_lt, i_le, i_eq, i_in, nI_toInt, Int32.reduceToInt, i_sub, i_add, i_mul]; omega) ?_
            refine brnT (by simp (disch := first | omega | (simp (disch := omega) only [nI_toInt, Int32.reduceToInt, i_sub, i_add, i_mul]; omega)) only [iNONE, i_lt, i_le, i_eq, i_in, nI_toInt, Int32.reduceToInt, i_sub, i_add, i_mul]; omega) ?_
            refine brnT (by simp (disch := first | omega | (simp (disch := omega) only [nI_toInt, Int32.reduceToInt, i_sub, i_add, i_mul]; omega)) only [iNONE, i_lt, i_le, i_eq, i_in, nI_toInt, Int32.reduceToInt, i_sub, i_add, i_mul]; omega) ?_
            refine ⟨Or.inr rfl, ?_⟩
            refine brF (by decide) ?_
            refine And.intro (by simp (disch := first | omega | (simp (disch := omega) only [nI_toInt, Int32.reduceToInt, i_sub, i_add, i_mul]; omega)) only [iNONE, i_lt, i_le, i_eq, i_in, nI_toInt, Int32.reduceToInt, i_sub, i_add, i_mul]; omega) ?_
            rw [nI_clamp (by omega), gw]
            exact hf
      generalize kdT so n (tb 0) k = K at hK hF hY ⊢
      by_cases c1 : a = 0
      · refine brT (by simp (disch := first | omega | (simp (disch := omega) only [nI_toInt, Int32.reduceToInt, i_sub, i_add, i_mul]; omega)) only [iNONE, i_lt, i_le, i_eq, i_in, nI_toInt, Int32.reduceToInt, i_sub, i_add, i_mul]; omega) ?_
        refine brF (by decide) ?_
        refine c8_weightOf rfl hS hk ?_
        refine c11_foundNothing ?_
        exact hY (by omega)
      · refine brF (by simp (disch := first | omega | (simp (disch := omega) only [nI_toInt, Int32.reduceToInt, i_sub, i_add, i_mul]; omega)) only [iNONE, i_lt, i_le, i_eq, i_in, nI_toInt, Int32.reduceToInt, i_sub, i_add, i_mul]; omega) ?_
        by_cases c2 : K = a
        · refine brT (by rw [c2]) ?_
          refine brF (by decide) ?_
          refine c8_weightOf rfl hS hk ?_
          refine c11_foundNothing ?_
          exact hY (by omega)
        · refine brF (by simp (disch := first | omega | (simp (disch := omega) only [nI_toInt, Int32.reduceToInt, i_sub, i_add, i_mul]; omega)) only [iNONE, i_lt, i_le, i_eq, i_in, nI_toInt, Int32.reduceToInt, i_sub, i_add, i_mul]; omega) ?_
          by_cases c3 : a = 3
          · refine brnT (by simp (disch := first | omega | (simp (disch := omega) only [nI_toInt, Int32.reduceToInt, i_sub, i_add, i_mul]; omega)) only [iNONE, i_lt, i_le, i_eq, i_in, nI_toInt, Int32.reduceToInt, i_sub, i_add, i_mul]; omega) ?_
            by_cases c4 : K = 4
            · refine brnT (by simp (disch := first | omega | (simp (disch := omega) only [nI_toInt, Int32.reduceToInt, i_sub, i_add, i_mul]; omega)) only [iNONE, i_lt, i_le, i_eq, i_in, nI_toInt, Int32.reduceToInt, i_sub, i_add, i_mul]; omega) ?_
              refine brF (by decide) ?_
              refine c8_weightOf rfl hS hk ?_
              refine c11_foundNothing ?_
              exact hY (by omega)
            · refine brnF (by simp (disch := first | omega | (simp (disch := omega) only [nI_toInt, Int32.reduceToInt, i_sub, i_add, i_mul]; omega)) only [iNONE, i_lt, i_le, i_eq, i_in, nI_toInt, Int32.reduceToInt, i_sub, i_add, i_mul]; omega) ?_
              refine brT rfl ?_
              refine c11_found ?_
              exact hF (by omega)
          · refine brnF (by simp (disch := first | omega | (simp (disch := omega) only [nI_toInt, Int32.reduceToInt, i_sub, i_add, i_mul]; omega)) only [iNONE, i_lt, i_le, i_eq, i_in, nI_toInt, Int32.reduceToInt, i_sub, i_add, i_mul]; omega) ?_
            refine brT rfl ?_
            refine c11_found ?_
            exact hF (by omega)
    · refine brnT rfl ?_
      refine h _ _ (fun Q hq => ?_)
      refine call_go (cd := k12_as) 60 rfl rfl ?_
      refine r12_thingY g1.2.1 hk ?_
      refine brF (by decide) ?_
      refine r12_inN (b := 6) (by decide) (fun a ha e2 => by subst e2; rw [nI_toInt (by omega)] at e; omega) (fun q => ?_)
      refine brnT rfl ?_
      exact hq _ hI.th
  · refine brT rfl ?_
    refine h _ _ (fun Q hq => ?_)
    refine call_go (cd := k12_as) 60 rfl rfl ?_
    refine r12_thingN g1.2.1 e ?_
    refine brT rfl ?_
    exact hq _ hI.th
end OP
