/-! reach, status, trace, fault, feed -/
section OP
variable {d n k c s a b r u o i rel κ : Nat} {μ μ' : sM} {Q : sQ} {x y z w v : Int32} {l : Int64} {ξ : Nat → Nat → Int32}
theorem inv_ot (h : INV ξ μ) : ∃ κ, oth μ κ ξ := by
  obtain ⟨n, so, wt, κ, tb, lr, h1, h2, h3⟩ := h
  exact ⟨κ, h3⟩
theorem r12_isArm (h1 : ∀ a, a < 2 → x = nI a → Q 1 0 (0, 0) μ) (h2 : x.toInt < 0 ∨ 2 ≤ x.toInt → Q 0 0 (0, 0) μ) : Call (d + 2) n12_isArm [sI x] μ Q := by
  refine call_go (cd := k12_isArm) 30 rfl rfl ?_
  refine r12_inN (b := 2) (by decide) (fun a ha e => ?_) (fun e => ?_)
  · exact ⟨Or.inr rfl, h1 a ha e⟩
  · exact ⟨Or.inl rfl, h2 e⟩
theorem op_reach (hI : INV ξ μ) (h : ∀ v μ', opQ ξ (d + 20) n12_reach [sR 41 0, sI x, sI y] v μ' → Q v 0 (0, 0) μ') : Call (d + 20) n11_reach [sR 0 0, sI x, sI y] μ Q := by
  obtain ⟨κ, hO⟩ := inv_ot hI
  obtain ⟨rc, hr⟩ := hO.2.1
  by_cases hb : (∃ s, s < 2 ∧ x = nI s) ∧ (0 ≤ y.toInt ∧ y.toInt < (256 : Nat))
  · obtain ⟨⟨a, ha, rfl⟩, hy⟩ := hb
    obtain ⟨m, hm, rfl⟩ := nI_ofB hy.1 hy.2
    have ga := hr a ha
    refine call_go (cd := k11_reach) 60 rfl rfl ?_
    refine c11_isWithin (b := 2) rfl rfl (by omega) (by decide) (fun _ => ?_) (fun z => by omega)
    refine brF (by decide) ?_
    refine brF (by simp (disch := first | omega | (simp (disch := omega) only [nI_toInt, Int32.reduceToInt, i_sub, i_add, i_mul]; omega)) only [iNONE, i_lt, i_le, i_eq, i_in, nI_toInt, Int32.reduceToInt, i_sub, i_add, i_mul]; omega) ?_
    refine brT (by simp (disch := first | omega | (simp (disch := omega) only [nI_toInt, Int32.reduceToInt, i_sub, i_add, i_mul]; omega)) only [iNONE, i_lt, i_le, i_eq, i_in, nI_toInt, Int32.reduceToInt, i_sub, i_add, i_mul]; omega) ?_
    refine call_go (cd := k0_stretch) 60 rfl rfl ?_
    refine c11_isWithin (b := 2) rfl rfl (by omega) (by decide) (fun _ => ?_) (fun z => by omega)
    refine brnF (by decide) ?_
    refine And.intro (by simp (disch := first | omega | (simp (disch := omega) only [nI_toInt, Int32.reduceToInt, i_sub, i_add, i_mul]; omega)) only [iNONE, i_lt, i_le, i_eq, i_in, nI_toInt, Int32.reduceToInt, i_sub, i_add, i_mul]; omega) ?_
    refine And.intro (by simp (disch := first | omega | (simp (disch := omega) only [nI_toInt, Int32.reduceToInt, i_sub, i_add, i_mul]; omega)) only [iNONE, i_lt, i_le, i_eq, i_in, nI_toInt, Int32.reduceToInt, i_sub, i_add, i_mul]; omega) ?_
    rw [nI_clamp (by omega), ga.2.1]
    refine h _ _ (fun Q hq => ?_)
    refine call_go (cd := k12_reach) 60 rfl rfl ?_
    refine r12_isArm (fun _ _ _ => ?_) (fun q => by rw [nI_toInt (by omega)] at q; omega)
    refine brF (by decide) ?_
    refine r12_inN (b := 256) (by decide) (fun _ _ _ => ?_) (fun q => by rw [nI_toInt (by omega)] at q; omega)
    refine brnF (by decide) ?_
    refine And.intro (by simp (disch := first | omega | (simp (disch := omega) only [nI_toInt, Int32.reduceToInt, i_sub, i_add, i_mul]; omega)) only [iNONE, i_lt, i_le, i_eq, i_in, nI_toInt, Int32.reduceToInt, i_sub, i_add, i_mul]; omega) ?_
    refine And.intro (by simp (disch := first | omega | (simp (disch := omega) only [nI_toInt, Int32.reduceToInt, i_sub, i_add, i_mul]; omega)) only [iNONE, i_lt, i_le, i_eq, i_in, nI_toInt, Int32.reduceToInt, i_sub, i_add, i_mul]; omega) ?_
    rw [nI_clamp (by omega), show (m_i (m_i μ 15 0 a (nI m)) 41 0 0 0).1 45 0 a = nI (rc a) from ga.2.2]
    refine hq _ (hI.rc (((frm.rf.mi (by unfold f_rc fT fO fS fR fN fP fX fF fL; omega)).mi (by unfold f_rc fT fO fS fR fN fP fX fF fL; omega)).mi (by unfold f_rc fT fO fS fR fN fP fX fF fL; omega)) rfl ⟨fun q => if q = a then m else rc q, fun q hq' => ?_⟩)
    show (if q = a then m else rc q) < 256 ∧ (if 15 = 15 ∧ 0 = 0 ∧ q = a then nI m else μ.1 15 0 q) = nI (if q = a then m else rc q) ∧ (if 45 = 45 ∧ 0 = 0 ∧ q = a then nI m else μ.1 45 0 q) = nI (if q = a then m else rc q)
    by_cases e : q = a
    · rw [if_pos e, if_pos (⟨rfl, rfl, e⟩ : 15 = 15 ∧ 0 = 0 ∧ q = a), if_pos (⟨rfl, rfl, e⟩ : 45 = 45 ∧ 0 = 0 ∧ q = a)]
      exact ⟨hm, rfl, rfl⟩
    · rw [if_neg e, if_neg (fun q' => e q'.2.2 : ¬ (15 = 15 ∧ 0 = 0 ∧ q = a)), if_neg (fun q' => e q'.2.2 : ¬ (45 = 45 ∧ 0 = 0 ∧ q = a))]
      exact hr q hq'
  · have hB : Q (-1000001) 0 (0, 0) μ := by
      refine h _ _ (fun Q hq => ?_)
      have hq' := hq _ hI.th
      refine call_go (cd := k12_reach) 60 rfl rfl ?_
      refine r12_isArm (fun s hs e1 => ?_) (fun q => ?_)
      · refine brF (by decide) ?_
        refine r12_inN (b := 256) (by decide) (fun m hm e2 => absurd ⟨⟨s, hs, e1⟩, by subst e2; rw [nI_toInt (by omega)]; omega⟩ hb) (fun q => ?_)
        refine brnT rfl ?_
        exact hq'
      · refine brT rfl ?_
        exact hq'
    refine call_go (cd := k11_reach) 60 rfl rfl ?_
    refine c11_within (b := 2) rfl (by decide) (fun s hs e1 => ?_) (fun _ => ?_)
    · refine brF (by decide) ?_
      have e2 : ¬ (0 ≤ y.toInt ∧ y.toInt < (256 : Nat)) := fun e => hb ⟨⟨s, hs, e1⟩, e⟩
      have ry := i_rng y
      by_cases c1 : y.toInt < 0
      · refine brT (by simp (disch := first | omega | (simp (disch := omega) only [nI_toInt, Int32.reduceToInt, i_sub, i_add, i_mul]; omega)) only [iNONE, i_lt, i_le, i_eq, i_in, nI_toInt, Int32.reduceToInt, i_sub, i_add, i_mul]; omega) ?_
        exact hB
      · refine brF (by simp (disch := first | omega | (simp (disch := omega) only [nI_toInt, Int32.reduceToInt, i_sub, i_add, i_mul]; omega)) only [iNONE, i_lt, i_le, i_eq, i_in, nI_toInt, Int32.reduceToInt, i_sub, i_add, i_mul]; omega) ?_
        refine brF (by simp (disch := first | omega | (simp (disch := omega) only [nI_toInt, Int32.reduceToInt, i_sub, i_add, i_mul]; omega)) only [iNONE, i_lt, i_le, i_eq, i_in, nI_toInt, Int32.reduceToInt, i_sub, i_add, i_mul]; omega) ?_
        exact hB
    · refine brT rfl ?_
      exact hB
theorem op_status (hI : INV ξ μ) (h : ∀ v μ', opQ ξ (d + 20) n12_status [sR 41 0] v μ' → Q v 0 (0, 0) μ') : Call (d + 20) n11_status [sR 0 0] μ Q := by
  obtain ⟨κ, hO⟩ := inv_ot hI
  have hs : μ.1 0 0 11 = μ.1 41 0 1 := hO.2.2.2.2.2.1
  refine call_go (cd := k11_status) 60 rfl rfl ?_
  refine h _ _ (fun Q hq => ?_)
  rw [hs] at hq
  refine call_go (cd := k12_status) 60 rfl rfl ?_
  exact hq _ hI.th
theorem op_fault (hI : INV ξ μ) (h : ∀ v μ', opQ ξ (d + 20) n12_fault [sR 41 0] v μ' → Q v 0 (0, 0) μ') : Call (d + 20) n11_fault [sR 0 0] μ Q := by
  obtain ⟨κ, hO⟩ := inv_ot hI
  obtain ⟨tl, tp, ht⟩ := hO.2.2.2.1
  have hs := ht.2.2.2.1
  refine call_go (cd := k11_fault) 60 rfl rfl ?_
  refine call_go (cd := k4_latestFault) 60 rfl rfl ?_
  refine h _ _ (fun Q hq => ?_)
  rw [hs] at hq
  refine call_go (cd := k12_fault) 60 rfl rfl ?_
  exact hq _ hI.th
theorem op_trace (hI : INV ξ μ) (h : ∀ v μ', opQ ξ (d + 20) n12_trace [sR 41 0, sI x] v μ' → Q v 0 (0, 0) μ') : Call (d + 20) n11_trace [sR 0 0, sI x] μ Q := by
  obtain ⟨κ, hO⟩ := inv_ot hI
  obtain ⟨nt, h1, h2, h3, h4⟩ := hO.2.2.2.2.1
  have rx := i_rng x
  have e0 : ((m_i μ 41 0 0 0).1 41 0 33 - 1).toInt64.toInt = (nt : Int) - 1 := by
    rw [show (m_i μ 41 0 0 0).1 41 0 33 = nI nt from h3, j_of]
    simp (disch := first | omega | (simp (disch := omega) only [nI_toInt, Int32.reduceToInt]; omega)) only [nI_toInt, Int32.reduceToInt, i_sub]
  refine call_go (cd := k11_trace) 60 rfl rfl ?_
  refine call_go (cd := k1_bodyAt) 60 rfl rfl ?_
  by_cases hx : 0 ≤ x.toInt ∧ x.toInt < nt
  · obtain ⟨k, hk, rfl⟩ := nI_ofB hx.1 hx.2
    refine brF (by simp (disch := first | omega | (simp (disch := omega) only [nI_toInt, Int32.reduceToInt, i_sub, i_add, i_mul]; omega)) only [iNONE, i_lt, i_le, i_eq, i_in, nI_toInt, Int32.reduceToInt, i_sub, i_add, i_mul]; omega) ?_
    refine brF (by simp (disch := first | omega | (simp (disch := omega) only [nI_toInt, Int32.reduceToInt, i_sub, i_add, i_mul]; omega)) only [h2, iNONE, i_lt, i_le, i_eq, i_in, nI_toInt, Int32.reduceToInt, i_sub, i_add, i_mul]; omega) ?_
    refine brF (by simp (disch := first | omega | (simp (disch := omega) only [nI_toInt, Int32.reduceToInt, i_sub, i_add, i_mul]; omega)) only [iNONE, i_lt, i_le, i_eq, i_in, nI_toInt, Int32.reduceToInt, i_sub, i_add, i_mul]; omega) ?_
    refine And.intro (by simp (disch := first | omega | (simp (disch := omega) only [nI_toInt, Int32.reduceToInt, i_sub, i_add, i_mul]; omega)) only [iNONE, i_lt, i_le, i_eq, i_in, nI_toInt, Int32.reduceToInt, i_sub, i_add, i_mul]; omega) ?_
    rw [nI_clamp (by omega)]
    refine h _ _ (fun Q hq => ?_)
    refine call_go (cd := k12_trace) 60 rfl rfl ?_
    refine r12_inN (b := nt) (by rw [e0]; omega) (fun _ _ _ => ?_) (fun q => by rw [nI_toInt (by omega)] at q; omega)
    refine brF (by decide) ?_
    refine And.intro (by simp (disch := first | omega | (simp (disch := omega) only [nI_toInt, Int32.reduceToInt, i_sub, i_add, i_mul]; omega)) only [iNONE, i_lt, i_le, i_eq, i_in, nI_toInt, Int32.reduceToInt, i_sub, i_add, i_mul]; omega) ?_
    rw [nI_clamp (by omega)]
    rw [h4 k hk] at hq
    exact hq _ hI.th
  · have hB : Q (-1000000) 0 (0, 0) μ := by
      refine h _ _ (fun Q hq => ?_)
      refine call_go (cd := k12_trace) 60 rfl rfl ?_
      refine r12_inN (b := nt) (by rw [e0]; omega) (fun a ha e => absurd (by subst e; rw [nI_toInt (by omega)]; omega) hx) (fun q => ?_)
      refine brT rfl ?_
      exact hq _ hI.th
    by_cases c1 : x.toInt < 0
    · refine brT (by simp (disch := first | omega | (simp (disch := omega) only [nI_toInt, Int32.reduceToInt, i_sub, i_add, i_mul]; omega)) only [iNONE, i_lt, i_le, i_eq, i_in, nI_toInt, Int32.reduceToInt, i_sub, i_add, i_mul]; omega) ?_
      exact hB
    · refine brF (by simp (disch := first | omega | (simp (disch := omega) only [nI_toInt, Int32.reduceToInt, i_sub, i_add, i_mul]; omega)) only [iNONE, i_lt, i_le, i_eq, i_in, nI_toInt, Int32.reduceToInt, i_sub, i_add, i_mul]; omega) ?_
      refine brT (by simp (disch := first | omega | (simp (disch := omega) only [nI_toInt, Int32.reduceToInt, i_sub, i_add, i_mul]; omega)) only [h2, iNONE, i_lt, i_le, i_eq, i_in, nI_toInt, Int32.reduceToInt, i_sub, i_add, i_mul]; omega) ?_
      exact hB
end OP
