/-! calls of sheets: set, drop, copy -/
section OP
variable {d n k c s a b r u o i rel κ : Nat} {μ μ' : sM} {Q : sQ} {la mn : Nat → Nat} {it : Nat → Int32} {x y z w v : Int32} {ξ : Nat → Nat → Int32}
/-- a finding of both -/
theorem INV.find (h : INV ξ μ) (hx : x = y) : INV ξ (m_i (m_i (m_i (m_i μ 0 0 11 x) 41 0 0 0) 41 0 1 0) 41 0 1 y) := by
  subst hx
  refine h.sh ((((frm.rf.mi (by unfold fS' fT fO fS fR fN fP fX fF fL; omega)).mi (by unfold fS' fT fO fS fR fN fP fX fF fL; omega)).mi (by unfold fS' fT fO fS fR fN fP fX fF fL; omega)).mi (by unfold fS' fT fO fS fR fN fP fX fF fL; omega)) rfl ?_ rfl
  exact h.sg.fr ((((frm.rf.mi (by unfold fS; omega)).mi (by unfold fS; omega)).mi (by unfold fS; omega)).mi (by unfold fS; omega))
theorem r12_sheetY (hs : s < 8) (h : Q 1 0 (0, 0) μ) : Call (d + 2) n12_isSheet [sI (nI s)] μ Q := r12_isSheet (fun _ _ _ => h) (fun q => by rw [nI_toInt (by omega)] at q; omega)
theorem op_set (hI : INV ξ μ) (h : ∀ v μ', opQ ξ (d + 20) n12_set [sR 41 0, sI x, sI y, sI z] v μ' → Q v 0 (0, 0) μ') : Call (d + 20) n11_set [sR 0 0, sI x, sI y, sI z] μ Q := by
  obtain ⟨la, mn, it, g1, g2, g3⟩ := hI.sg
  refine call_go (cd := k11_set) 60 rfl rfl ?_
  refine c11_within (b := 8) rfl (by decide) (fun s hs e1 => ?_) (fun e1 => ?_)
  · subst e1
    have hm := g1 s hs
    refine brnF (by decide) ?_
    refine c6_isMissing rfl hs g1 g2 (fun e2 => ?_) (fun e2 => ?_)
    · refine brF (by decide) ?_
      refine c11_found ?_
      refine h _ _ (fun Q hq => ?_)
      refine call_go (cd := k12_set) 60 rfl rfl ?_
      refine r12_sheetY hs ?_
      refine brnF (by decide) ?_
      refine And.intro (by simp (disch := first | omega | (simp (disch := omega) only [nI_toInt, Int32.reduceToInt, i_sub, i_add, i_mul]; omega)) only [iNONE, i_lt, i_le, i_eq, i_in, nI_toInt, Int32.reduceToInt, i_sub, i_add, i_mul]; omega) ?_
      rw [nI_clamp (by omega)]
      refine brF (show ¬ 0 ≤ μ.1 51 0 s from by rw [(g3.1 s hs).1, e2]; decide) ?_
      refine r12_finding ?_
      exact hq _ (hI.find rfl)
    · refine brT rfl ?_
      refine c6_spans rfl hs g1 g2 e2 (fun e3 => ?_) (fun e3 => ?_)
      · refine brnF (by decide) ?_
        rw [show (1 : Int32).toInt = 1 from by decide] at e3
        obtain ⟨i, hi, rfl⟩ := nI_ofB (x := y) (b := mn s) (by omega) (by omega)
        refine c6_write rfl rfl hs g1 g2 e2 hi ?_
        refine c11_foundNothing ?_
        refine h _ _ (fun Q hq => ?_)
        have hq' : Q (nrT (la s) z) 0 (0, 0) (m_i (m_i (m_i (m_i (m_i μ 4 0 (40 * s + i) (nrT (la s) z)) 0 0 11 0) 41 0 0 0) 41 0 1 0) 53 0 (40 * s + i) (nrT (la s) z)) := by
          refine hq _ (hI.sh (((((frm.rf.mi (by unfold fS' fT fO fS fR fN fP fX fF fL; omega)).mi (by unfold fS' fT fO fS fR fN fP fX fF fL; omega)).mi (by unfold fS' fT fO fS fR fN fP fX fF fL; omega)).mi (by unfold fS' fT fO fS fR fN fP fX fF fL; omega)).mi (by unfold fS' fT fO fS fR fN fP fX fF fL; omega)) rfl ⟨la, mn, fun q => if q = 40 * s + i then nrT (la s) z else it q, g1, ?_, ?_⟩ rfl)
          · refine ⟨fun q hq' => g2.1 q hq', fun q hq' => ?_⟩
            show (if 4 = 4 ∧ 0 = 0 ∧ q = 40 * s + i then nrT (la s) z else μ.1 4 0 q) = if q = 40 * s + i then nrT (la s) z else it q
            by_cases e : q = 40 * s + i
            · rw [if_pos (⟨rfl, rfl, e⟩ : 4 = 4 ∧ 0 = 0 ∧ q = 40 * s + i), if_pos e]
            · rw [if_neg (fun q' => e q'.2.2 : ¬ (4 = 4 ∧ 0 = 0 ∧ q = 40 * s + i)), if_neg e]; exact g2.2 q hq'
          · refine ⟨fun q hq' => g3.1 q hq', fun q hq' => ?_⟩
            show (if 53 = 53 ∧ 0 = 0 ∧ q = 40 * s + i then nrT (la s) z else μ.1 53 0 q) = if q = 40 * s + i then nrT (la s) z else it q
            by_cases e : q = 40 * s + i
            · rw [if_pos (⟨rfl, rfl, e⟩ : 53 = 53 ∧ 0 = 0 ∧ q = 40 * s + i), if_pos e]
            · rw [if_neg (fun q' => e q'.2.2 : ¬ (53 = 53 ∧ 0 = 0 ∧ q = 40 * s + i)), if_neg e]; exact g3.2 q hq'
        generalize hM : m_i (m_i μ 4 0 (40 * s + i) (nrT (la s) z)) 0 0 11 0 = M at hq' ⊢
        have gl : (m_i (m_i M 41 0 0 0) 41 0 1 0).1 51 0 s = nI (la s) := by subst hM; rw [← m9_n e2]; exact (g3.1 s hs).1
        have gm : (m_i (m_i M 41 0 0 0) 41 0 1 0).1 52 0 s = nI (mn s) := by subst hM; exact (g3.1 s hs).2 e2
        refine call_go (cd := k12_set) 70 rfl rfl ?_
        refine r12_sheetY hs ?_
        refine brnF (by decide) ?_
        refine And.intro (by simp (disch := first | omega | (simp (disch := omega) only [nI_toInt, Int32.reduceToInt, i_sub, i_add, i_mul]; omega)) only [iNONE, i_lt, i_le, i_eq, i_in, nI_toInt, Int32.reduceToInt, i_sub, i_add, i_mul]; omega) ?_
        rw [nI_clamp (by omega), gl]
        refine brT (by simp (disch := first | omega | (simp (disch := omega) only [nI_toInt, Int32.reduceToInt, i_sub, i_add, i_mul]; omega)) only [iNONE, i_lt, i_le, i_eq, i_in, nI_toInt, Int32.reduceToInt, i_sub, i_add, i_mul]; omega) ?_
        refine And.intro (by simp (disch := first | omega | (simp (disch := omega) only [nI_toInt, Int32.reduceToInt, i_sub, i_add, i_mul]; omega)) only [iNONE, i_lt, i_le, i_eq, i_in, nI_toInt, Int32.reduceToInt, i_sub, i_add, i_mul]; omega) ?_
        rw [nI_clamp (by omega), gm]
        refine r12_in (fun e4 => ?_) (fun e4 => absurd ?_ e4)
        · refine brnF (by decide) ?_
          refine And.intro (by simp (disch := first | omega | (simp (disch := omega) only [nI_toInt, Int32.reduceToInt, i_sub, i_add, i_mul]; omega)) only [iNONE, i_lt, i_le, i_eq, i_in, nI_toInt, Int32.reduceToInt, i_sub, i_add, i_mul]; omega) ?_
          rw [nI_clamp (by omega), gl]
          unfold nrT at hq'
          by_cases l0 : la s = 0
          · rw [if_pos l0] at hq'
            refine brnT (by simp (disch := first | omega | (simp (disch := omega) only [nI_toInt, Int32.reduceToInt, i_sub, i_add, i_mul]; omega)) only [iNONE, i_lt, i_le, i_eq, i_in, nI_toInt, Int32.reduceToInt, i_sub, i_add, i_mul]; omega) ?_
            (refine And.intro (by rw [nI_04]; exact vp_in_nI (by omega) (by decide)) ?_; rw [nI_04, nI_clamp (by omega)])
            (refine And.intro (by rw [nI_04]; exact vp_in_nI (by omega) (by decide)) ?_; rw [nI_04, nI_clamp (by omega)])
            rw [mi_s]
            exact hq'
          · rw [if_neg l0] at hq'
            refine brnF (by simp (disch := first | omega | (simp (disch := omega) only [nI_toInt, Int32.reduceToInt, i_sub, i_add, i_mul]; omega)) only [iNONE, i_lt, i_le, i_eq, i_in, nI_toInt, Int32.reduceToInt, i_sub, i_add, i_mul]; omega) ?_
            refine And.intro (by simp (disch := first | omega | (simp (disch := omega) only [nI_toInt, Int32.reduceToInt, i_sub, i_add, i_mul]; omega)) only [iNONE, i_lt, i_le, i_eq, i_in, nI_toInt, Int32.reduceToInt, i_sub, i_add, i_mul]; omega) ?_
            rw [nI_clamp (by omega), gl]
            by_cases l1 : la s = 1
            · rw [if_pos l1] at hq'
              refine brnT (by simp (disch := first | omega | (simp (disch := omega) only [nI_toInt, Int32.reduceToInt, i_sub, i_add, i_mul]; omega)) only [iNONE, i_lt, i_le, i_eq, i_in, nI_toInt, Int32.reduceToInt, i_sub, i_add, i_mul]; omega) ?_
              (refine And.intro (by rw [nI_04]; exact vp_in_nI (by omega) (by decide)) ?_; rw [nI_04, nI_clamp (by omega)])
              (refine And.intro (by rw [nI_04]; exact vp_in_nI (by omega) (by decide)) ?_; rw [nI_04, nI_clamp (by omega)])
              rw [mi_s]
              exact hq'
            · rw [if_neg l1] at hq'
              refine brnF (by simp (disch := first | omega | (simp (disch := omega) only [nI_toInt, Int32.reduceToInt, i_sub, i_add, i_mul]; omega)) only [iNONE, i_lt, i_le, i_eq, i_in, nI_toInt, Int32.reduceToInt, i_sub, i_add, i_mul]; omega) ?_
              (refine And.intro (by rw [nI_04]; exact vp_in_nI (by omega) (by decide)) ?_; rw [nI_04, nI_clamp (by omega)])
              (refine And.intro (by rw [nI_04]; exact vp_in_nI (by omega) (by decide)) ?_; rw [nI_04, nI_clamp (by omega)])
              rw [mi_s]
              exact hq'
        · rw [j_of, j_of, show (0 : Int64).toInt = 0 from by decide]
          simp (disch := first | omega | (simp (disch := omega) only [nI_toInt, Int32.reduceToInt]; omega)) only [nI_toInt, Int32.reduceToInt, i_sub]
          omega
      · refine brnT rfl ?_
        refine c11_found ?_
        refine h _ _ (fun Q hq => ?_)
        rw [show (1 : Int32).toInt = 1 from by decide] at e3
        refine call_go (cd := k12_set) 60 rfl rfl ?_
        refine r12_sheetY hs ?_
        refine brnF (by decide) ?_
        refine And.intro (by simp (disch := first | omega | (simp (disch := omega) only [nI_toInt, Int32.reduceToInt, i_sub, i_add, i_mul]; omega)) only [iNONE, i_lt, i_le, i_eq, i_in, nI_toInt, Int32.reduceToInt, i_sub, i_add, i_mul]; omega) ?_
        rw [nI_clamp (by omega)]
        refine brT (show 0 ≤ μ.1 51 0 s from by rw [(g3.1 s hs).1, m9_n e2]; exact (by simp (disch := first | omega | (simp (disch := omega) only [nI_toInt, Int32.reduceToInt, i_sub, i_add, i_mul]; omega)) only [iNONE, i_lt, i_le, i_eq, i_in, nI_toInt, Int32.reduceToInt, i_sub, i_add, i_mul]; omega)) ?_
        refine And.intro (by simp (disch := first | omega | (simp (disch := omega) only [nI_toInt, Int32.reduceToInt, i_sub, i_add, i_mul]; omega)) only [iNONE, i_lt, i_le, i_eq, i_in, nI_toInt, Int32.reduceToInt, i_sub, i_add, i_mul]; omega) ?_
        rw [nI_clamp (by omega)]
        refine r12_in (fun e4 => absurd e4 ?_) (fun e4 => ?_)
        · rw [show (m_i (m_i (m_i μ 0 0 11 2) 41 0 0 0) 41 0 1 0).1 52 0 s = nI (mn s) from (g3.1 s hs).2 e2, j_of, j_of, show (0 : Int64).toInt = 0 from by decide]
          simp (disch := first | omega | (simp (disch := omega) only [nI_toInt, Int32.reduceToInt]; omega)) only [nI_toInt, Int32.reduceToInt, i_sub]
          omega
        · refine brnT rfl ?_
          refine r12_finding ?_
          exact hq _ (hI.find rfl)
  · refine brnT rfl ?_
    refine h _ _ (fun Q hq => ?_)
    refine call_go (cd := k12_set) 60 rfl rfl ?_
    refine r12_isSheet (fun s hs e2 => ?_) (fun _ => ?_)
    · subst e2; rw [nI_toInt (by omega)] at e1; omega
    · refine brnT rfl ?_
      exact hq _ hI.th
theorem op_drop (hI : INV ξ μ) (h : ∀ v μ', opQ ξ (d + 20) n12_drop [sR 41 0, sI x] v μ' → Q v 0 (0, 0) μ') : Call (d + 20) n11_drop [sR 0 0, sI x] μ Q := by
  obtain ⟨la, mn, it, g1, g2, g3⟩ := hI.sg
  refine call_go (cd := k11_drop) 60 rfl rfl ?_
  refine c11_within (b := 8) rfl (by decide) (fun s hs e1 => ?_) (fun e1 => ?_)
  · subst e1
    have hm := g1 s hs
    refine brnF (by decide) ?_
    refine c6_isMissing rfl hs g1 g2 (fun e2 => ?_) (fun e2 => ?_)
    · refine brF (by decide) ?_
      refine c11_found ?_
      refine h _ _ (fun Q hq => ?_)
      refine call_go (cd := k12_drop) 60 rfl rfl ?_
      refine r12_sheetY hs ?_
      refine brnF (by decide) ?_
      refine And.intro (by simp (disch := first | omega | (simp (disch := omega) only [nI_toInt, Int32.reduceToInt, i_sub, i_add, i_mul]; omega)) only [iNONE, i_lt, i_le, i_eq, i_in, nI_toInt, Int32.reduceToInt, i_sub, i_add, i_mul]; omega) ?_
      rw [nI_clamp (by omega)]
      refine brF (show ¬ 0 ≤ μ.1 51 0 s from by rw [(g3.1 s hs).1, e2]; decide) ?_
      refine r12_finding ?_
      exact hq _ (hI.find rfl)
    · refine brT rfl ?_
      refine c6_clear rfl hs ?_
      refine c11_foundNothing ?_
      refine h _ _ (fun Q hq => ?_)
      refine call_go (cd := k12_drop) 60 rfl rfl ?_
      refine r12_sheetY hs ?_
      refine brnF (by decide) ?_
      refine And.intro (by simp (disch := first | omega | (simp (disch := omega) only [nI_toInt, Int32.reduceToInt, i_sub, i_add, i_mul]; omega)) only [iNONE, i_lt, i_le, i_eq, i_in, nI_toInt, Int32.reduceToInt, i_sub, i_add, i_mul]; omega) ?_
      rw [nI_clamp (by omega)]
      refine brT (show 0 ≤ μ.1 51 0 s from by rw [(g3.1 s hs).1, m9_n e2]; exact (by simp (disch := first | omega | (simp (disch := omega) only [nI_toInt, Int32.reduceToInt, i_sub, i_add, i_mul]; omega)) only [iNONE, i_lt, i_le, i_eq, i_in, nI_toInt, Int32.reduceToInt, i_sub, i_add, i_mul]; omega)) ?_
      refine And.intro (by simp (disch := first | omega | (simp (disch := omega) only [nI_toInt, Int32.reduceToInt, i_sub, i_add, i_mul]; omega)) only [iNONE, i_lt, i_le, i_eq, i_in, nI_toInt, Int32.reduceToInt, i_sub, i_add, i_mul]; omega) ?_
      refine And.intro (by simp (disch := first | omega | (simp (disch := omega) only [nI_toInt, Int32.reduceToInt, i_sub, i_add, i_mul]; omega)) only [iNONE, i_lt, i_le, i_eq, i_in, nI_toInt, Int32.reduceToInt, i_sub, i_add, i_mul]; omega) ?_
      rw [nI_clamp (by omega)]
      rw [show (m_i (m_i (m_i (m_i (m_i (m_i μ 2 0 s (-1)) 3 0 s 0) 0 0 11 0) 41 0 0 0) 41 0 1 0) 51 0 s (-1)).1 52 0 s = μ.1 3 0 s from ((g3.1 s hs).2 e2).trans ((g2.1 s hs).2 e2).symm]
      refine hq _ (hI.sh ((((((frm.rf.mi (by unfold fS' fT fO fS fR fN fP fX fF fL; omega)).mi (by unfold fS' fT fO fS fR fN fP fX fF fL; omega)).mi (by unfold fS' fT fO fS fR fN fP fX fF fL; omega)).mi (by unfold fS' fT fO fS fR fN fP fX fF fL; omega)).mi (by unfold fS' fT fO fS fR fN fP fX fF fL; omega)).mi (by unfold fS' fT fO fS fR fN fP fX fF fL; omega)) rfl ⟨fun q => if q = s then 9 else la q, mn, it, ?_, ?_, ?_⟩ rfl)
      · intro q hq'
        by_cases e : q = s
        · dsimp only; rw [if_pos e]; exact ⟨Or.inl rfl, (g1 q hq').2⟩
        · dsimp only; rw [if_neg e]; exact g1 q hq'
      · refine ⟨fun q hq' => ?_, fun q hq' => g2.2 q hq'⟩
        show (if 2 = 2 ∧ 0 = 0 ∧ q = s then -1 else μ.1 2 0 q) = m9 (if q = s then 9 else la q) ∧ ((if q = s then 9 else la q) ≠ 9 → (if 3 = 3 ∧ 0 = 0 ∧ q = s then 0 else μ.1 3 0 q) = nI (mn q))
        by_cases e : q = s
        · rw [if_pos e, if_pos (⟨rfl, rfl, e⟩ : 2 = 2 ∧ 0 = 0 ∧ q = s)]; exact ⟨rfl, fun q => absurd rfl q⟩
        · rw [if_neg e, if_neg (fun q' => e q'.2.2 : ¬ (2 = 2 ∧ 0 = 0 ∧ q = s)), if_neg (fun q' => e q'.2.2 : ¬ (3 = 3 ∧ 0 = 0 ∧ q = s))]; exact g2.1 q hq'
      · refine ⟨fun q hq' => ?_, fun q hq' => g3.2 q hq'⟩
        show (if 51 = 51 ∧ 0 = 0 ∧ q = s then -1 else μ.1 51 0 q) = m9 (if q = s then 9 else la q) ∧ ((if q = s then 9 else la q) ≠ 9 → μ.1 52 0 q = nI (mn q))
        by_cases e : q = s
        · rw [if_pos e, if_pos (⟨rfl, rfl, e⟩ : 51 = 51 ∧ 0 = 0 ∧ q = s)]; exact ⟨rfl, fun q => absurd rfl q⟩
        · rw [if_neg e, if_neg (fun q' => e q'.2.2 : ¬ (51 = 51 ∧ 0 = 0 ∧ q = s))]; exact g3.1 q hq'
  · refine brnT rfl ?_
    refine h _ _ (fun Q hq => ?_)
    refine call_go (cd := k12_drop) 60 rfl rfl ?_
    refine r12_isSheet (fun s hs e2 => ?_) (fun _ => ?_)
    · subst e2; rw [nI_toInt (by omega)] at e1; omega
    · refine brnT rfl ?_
      exact hq _ hI.th
end OP
