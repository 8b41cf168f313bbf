/-! the law: call after call -/
section LAW
variable {i L : Nat} {μ : sM} {xs : Nat → Int32}
theorem ldS {c : Nat} (hX : μ.1 59 = scr xs L) (hL : L ≤ 3072) (hi : 6 * i + 6 ≤ L) (hc : c < 6) : vp_in (nI (6 * i) + nI c) (μ.1 59 1 0).toNatClampNeg := by
  rw [hX, show scr xs L 1 0 = nI L from rfl, nI_clamp (by omega), nI_add, i_in, nI_toInt (by omega)]
  omega
theorem ldS0 (hX : μ.1 59 = scr xs L) (hL : L ≤ 3072) (hi : 6 * i + 6 ≤ L) : vp_in (nI (6 * i)) (μ.1 59 1 0).toNatClampNeg := by
  rw [hX, show scr xs L 1 0 = nI L from rfl, nI_clamp (by omega), i_in, nI_toInt (by omega)]
  omega
theorem inv_sc {ξ : Nat → Nat → Int32} (h : INV ξ μ) : μ.1 59 = ξ := by
  obtain ⟨κ, hO⟩ := inv_ot h
  exact hO.2.2.2.2.2.2.2
theorem law_all (hL : L ≤ 3072) (h0 : INV (scr xs L) (mu0 (scr xs L))) : Run kL_law (Call 20) lawQ 16 [some (sR 59 0), some (sR 0 0), some (sR 41 0)] [] (mu0 (scr xs L)) := by
  refine run_go 2 ?_
  refine loopC (cd := kL_law) (d := 20) (Q := lawQ) (L / 6) (fun i ls μ => ls = [some (sR 59 0), some (sR 0 0), some (sR 41 0), some (sI (nI (6 * i)))] ∧ INV (scr xs L) μ) 18 0 _ _ (Nat.zero_le _) ⟨rfl, h0⟩ ?_
  rintro i ls μ hi ⟨rfl, hI⟩ kk
  have hX := inv_sc hI
  have hlen : μ.1 59 1 0 = nI L := by rw [hX]; rfl
  refine run_go 6 ?_
  by_cases e : i = L / 6
  · refine brT (by simp (disch := first | omega | (simp (disch := omega) only [nI_toInt, Int32.reduceToInt, i_sub, i_add, i_mul]; omega)) only [hlen, iNONE, i_lt, i_le, i_eq, i_in, nI_toInt, Int32.reduceToInt, i_sub, i_add, i_mul]; omega) ?_
    refine run_go 5 ?_
    exact rfl
  · refine brF (by simp (disch := first | omega | (simp (disch := omega) only [nI_toInt, Int32.reduceToInt, i_sub, i_add, i_mul]; omega)) only [hlen, iNONE, i_lt, i_le, i_eq, i_in, nI_toInt, Int32.reduceToInt, i_sub, i_add, i_mul]; omega) ?_
    have hi' : 6 * i + 6 ≤ L := by omega
    have next : ∀ μ2, INV (scr xs L) μ2 → Run kL_law (Call 20) lawQ 1219 [some (sR 59 0), some (sR 0 0), some (sR 41 0), some (sI (nI (6 * i)))] [] μ2 := by
      intro μ2 hI2
      refine run_go 2 ?_
      refine kk _ _ (by omega) ⟨?_, hI2⟩
      rw [show (6 : Int32) = nI 6 from rfl, nI_add]
      rfl
    refine run_go 6 ?_
    refine And.intro (ldS0 hX hL hi') ?_
    refine And.intro (fun _ => ?_) (fun _ => ?_)
    · refine run_go 35 ?_
      refine And.intro (ldS (c := 1) hX hL hi' (by decide)) ?_
      refine And.intro (ldS (c := 2) hX hL hi' (by decide)) ?_
      refine And.intro (ldS (c := 3) hX hL hi' (by decide)) ?_
      rw [hX]
      refine call_S _ _ _ _ _ hX ?_
      refine op_sheet (d := 0) hI (fun v μ1 ho hS => ?_)
      refine And.intro (ldS (c := 1) hS hL hi' (by decide)) ?_
      refine And.intro (ldS (c := 2) hS hL hi' (by decide)) ?_
      refine And.intro (ldS (c := 3) hS hL hi' (by decide)) ?_
      rw [hS]
      refine ho _ (fun μ2 hI2 => ?_)
      refine brT rfl ?_
      exact next μ2 hI2
    refine And.intro (fun _ => ?_) (fun _ => ?_)
    · refine run_go 35 ?_
      refine And.intro (ldS (c := 1) hX hL hi' (by decide)) ?_
      refine And.intro (ldS (c := 2) hX hL hi' (by decide)) ?_
      refine And.intro (ldS (c := 3) hX hL hi' (by decide)) ?_
      rw [hX]
      refine call_S _ _ _ _ _ hX ?_
      refine op_set (d := 0) hI (fun v μ1 ho hS => ?_)
      refine And.intro (ldS (c := 1) hS hL hi' (by decide)) ?_
      refine And.intro (ldS (c := 2) hS hL hi' (by decide)) ?_
      refine And.intro (ldS (c := 3) hS hL hi' (by decide)) ?_
      rw [hS]
      refine ho _ (fun μ2 hI2 => ?_)
      refine brT rfl ?_
      exact next μ2 hI2
    refine And.intro (fun _ => ?_) (fun _ => ?_)
    · refine run_go 55 ?_
      refine And.intro (ldS (c := 1) hX hL hi' (by decide)) ?_
      refine And.intro (ldS (c := 2) hX hL hi' (by decide)) ?_
      refine And.intro (ldS (c := 3) hX hL hi' (by decide)) ?_
      refine And.intro (ldS (c := 4) hX hL hi' (by decide)) ?_
      refine And.intro (ldS (c := 5) hX hL hi' (by decide)) ?_
      rw [hX]
      refine call_S _ _ _ _ _ hX ?_
      refine op_copy (d := 0) hI (fun v μ1 ho hS => ?_)
      refine And.intro (ldS (c := 1) hS hL hi' (by decide)) ?_
      refine And.intro (ldS (c := 2) hS hL hi' (by decide)) ?_
      refine And.intro (ldS (c := 3) hS hL hi' (by decide)) ?_
      refine And.intro (ldS (c := 4) hS hL hi' (by decide)) ?_
      refine And.intro (ldS (c := 5) hS hL hi' (by decide)) ?_
      rw [hS]
      refine ho _ (fun μ2 hI2 => ?_)
      refine brT rfl ?_
      exact next μ2 hI2
    refine And.intro (fun _ => ?_) (fun _ => ?_)
    · refine run_go 15 ?_
      refine And.intro (ldS (c := 1) hX hL hi' (by decide)) ?_
      rw [hX]
      refine call_S _ _ _ _ _ hX ?_
      refine op_drop (d := 0) hI (fun v μ1 ho hS => ?_)
      refine And.intro (ldS (c := 1) hS hL hi' (by decide)) ?_
      rw [hS]
      refine ho _ (fun μ2 hI2 => ?_)
      refine brT rfl ?_
      exact next μ2 hI2
    refine And.intro (fun _ => ?_) (fun _ => ?_)
    · refine run_go 35 ?_
      refine And.intro (ldS (c := 1) hX hL hi' (by decide)) ?_
      refine And.intro (ldS (c := 2) hX hL hi' (by decide)) ?_
      refine And.intro (ldS (c := 3) hX hL hi' (by decide)) ?_
      rw [hX]
      refine call_S _ _ _ _ _ hX ?_
      refine op_thing (d := 0) hI (fun v μ1 ho hS => ?_)
      refine And.intro (ldS (c := 1) hS hL hi' (by decide)) ?_
      refine And.intro (ldS (c := 2) hS hL hi' (by decide)) ?_
      refine And.intro (ldS (c := 3) hS hL hi' (by decide)) ?_
      rw [hS]
      refine ho _ (fun μ2 hI2 => ?_)
      refine brT rfl ?_
      exact next μ2 hI2
    refine And.intro (fun _ => ?_) (fun _ => ?_)
    · refine run_go 25 ?_
      refine And.intro (ldS (c := 1) hX hL hi' (by decide)) ?_
      refine And.intro (ldS (c := 2) hX hL hi' (by decide)) ?_
      rw [hX]
      refine call_S _ _ _ _ _ hX ?_
      refine op_where (d := 0) hI (fun v μ1 ho hS => ?_)
      refine And.intro (ldS (c := 1) hS hL hi' (by decide)) ?_
      refine And.intro (ldS (c := 2) hS hL hi' (by decide)) ?_
      rw [hS]
      refine ho _ (fun μ2 hI2 => ?_)
      refine brT rfl ?_
      exact next μ2 hI2
    refine And.intro (fun _ => ?_) (fun _ => ?_)
    · refine run_go 25 ?_
      refine And.intro (ldS (c := 1) hX hL hi' (by decide)) ?_
      refine And.intro (ldS (c := 2) hX hL hi' (by decide)) ?_
      rw [hX]
      refine call_S _ _ _ _ _ hX ?_
      refine op_pile (d := 0) hI (fun v μ1 ho hS => ?_)
      refine And.intro (ldS (c := 1) hS hL hi' (by decide)) ?_
      refine And.intro (ldS (c := 2) hS hL hi' (by decide)) ?_
      rw [hS]
      refine ho _ (fun μ2 hI2 => ?_)
      refine brT rfl ?_
      exact next μ2 hI2
    refine And.intro (fun _ => ?_) (fun _ => ?_)
    · refine run_go 25 ?_
      refine And.intro (ldS (c := 1) hX hL hi' (by decide)) ?_
      refine And.intro (ldS (c := 2) hX hL hi' (by decide)) ?_
      rw [hX]
      refine call_S _ _ _ _ _ hX ?_
      refine op_reach (d := 0) hI (fun v μ1 ho hS => ?_)
      refine And.intro (ldS (c := 1) hS hL hi' (by decide)) ?_
      refine And.intro (ldS (c := 2) hS hL hi' (by decide)) ?_
      rw [hS]
      refine ho _ (fun μ2 hI2 => ?_)
      refine brT rfl ?_
      exact next μ2 hI2
    refine And.intro (fun _ => ?_) (fun _ => ?_)
    · refine run_go 35 ?_
      refine And.intro (ldS (c := 1) hX hL hi' (by decide)) ?_
      refine And.intro (ldS (c := 2) hX hL hi' (by decide)) ?_
      refine And.intro (ldS (c := 3) hX hL hi' (by decide)) ?_
      rw [hX]
      refine call_S _ _ _ _ _ hX ?_
      refine op_move (d := 0) hI (fun v μ1 ho hS => ?_)
      refine And.intro (ldS (c := 1) hS hL hi' (by decide)) ?_
      refine And.intro (ldS (c := 2) hS hL hi' (by decide)) ?_
      refine And.intro (ldS (c := 3) hS hL hi' (by decide)) ?_
      rw [hS]
      refine ho _ (fun μ2 hI2 => ?_)
      refine brT rfl ?_
      exact next μ2 hI2
    refine And.intro (fun _ => ?_) (fun _ => ?_)
    · refine run_go 5 ?_
      refine call_S _ _ _ _ _ hX ?_
      refine op_keep (d := 0) hI (fun v μ1 ho hS => ?_)
      refine ho _ (fun μ2 hI2 => ?_)
      refine brT rfl ?_
      exact next μ2 hI2
    refine And.intro (fun _ => ?_) (fun _ => ?_)
    · refine run_go 15 ?_
      refine And.intro (ldS (c := 1) hX hL hi' (by decide)) ?_
      rw [hX]
      refine call_S _ _ _ _ _ hX ?_
      refine op_back (d := 0) hI (fun v μ1 ho hS => ?_)
      refine And.intro (ldS (c := 1) hS hL hi' (by decide)) ?_
      rw [hS]
      refine ho _ (fun μ2 hI2 => ?_)
      refine brT rfl ?_
      exact next μ2 hI2
    refine And.intro (fun _ => ?_) (fun _ => ?_)
    · refine run_go 25 ?_
      refine And.intro (ldS (c := 1) hX hL hi' (by decide)) ?_
      refine And.intro (ldS (c := 2) hX hL hi' (by decide)) ?_
      rw [hX]
      refine call_S _ _ _ _ _ hX ?_
      refine op_same (d := 0) hI (fun v μ1 ho hS => ?_)
      refine And.intro (ldS (c := 1) hS hL hi' (by decide)) ?_
      refine And.intro (ldS (c := 2) hS hL hi' (by decide)) ?_
      rw [hS]
      refine ho _ (fun μ2 hI2 => ?_)
      refine brT rfl ?_
      exact next μ2 hI2
    refine And.intro (fun _ => ?_) (fun _ => ?_)
    · refine run_go 15 ?_
      refine And.intro (ldS (c := 1) hX hL hi' (by decide)) ?_
      rw [hX]
      refine call_S _ _ _ _ _ hX ?_
      refine op_order (d := 0) hI (fun v μ1 ho hS => ?_)
      refine And.intro (ldS (c := 1) hS hL hi' (by decide)) ?_
      rw [hS]
      refine ho _ (fun μ2 hI2 => ?_)
      refine brT rfl ?_
      exact next μ2 hI2
    refine And.intro (fun _ => ?_) (fun _ => ?_)
    · refine run_go 45 ?_
      refine And.intro (ldS (c := 1) hX hL hi' (by decide)) ?_
      refine And.intro (ldS (c := 2) hX hL hi' (by decide)) ?_
      refine And.intro (ldS (c := 3) hX hL hi' (by decide)) ?_
      refine And.intro (ldS (c := 4) hX hL hi' (by decide)) ?_
      rw [hX]
      refine call_S _ _ _ _ _ hX ?_
      refine op_lesson (d := 0) hI (fun v μ1 ho hS => ?_)
      refine And.intro (ldS (c := 1) hS hL hi' (by decide)) ?_
      refine And.intro (ldS (c := 2) hS hL hi' (by decide)) ?_
      refine And.intro (ldS (c := 3) hS hL hi' (by decide)) ?_
      refine And.intro (ldS (c := 4) hS hL hi' (by decide)) ?_
      rw [hS]
      refine ho _ (fun μ2 hI2 => ?_)
      refine brT rfl ?_
      exact next μ2 hI2
    refine And.intro (fun _ => ?_) (fun _ => ?_)
    · refine run_go 35 ?_
      refine And.intro (ldS (c := 1) hX hL hi' (by decide)) ?_
      refine And.intro (ldS (c := 2) hX hL hi' (by decide)) ?_
      refine And.intro (ldS (c := 3) hX hL hi' (by decide)) ?_
      rw [hX]
      refine call_S _ _ _ _ _ hX ?_
      refine op_lessons (d := 0) hI (fun v μ1 ho hS => ?_)
      refine And.intro (ldS (c := 1) hS hL hi' (by decide)) ?_
      refine And.intro (ldS (c := 2) hS hL hi' (by decide)) ?_
      refine And.intro (ldS (c := 3) hS hL hi' (by decide)) ?_
      rw [hS]
      refine ho _ (fun μ2 hI2 => ?_)
      refine brT rfl ?_
      exact next μ2 hI2
    refine And.intro (fun _ => ?_) (fun _ => ?_)
    · refine run_go 15 ?_
      refine And.intro (ldS (c := 1) hX hL hi' (by decide)) ?_
      rw [hX]
      refine call_S _ _ _ _ _ hX ?_
      refine op_unteach (d := 0) hI (fun v μ1 ho hS => ?_)
      refine And.intro (ldS (c := 1) hS hL hi' (by decide)) ?_
      rw [hS]
      refine ho _ (fun μ2 hI2 => ?_)
      refine brT rfl ?_
      exact next μ2 hI2
    refine And.intro (fun _ => ?_) (fun _ => ?_)
    · refine run_go 15 ?_
      refine And.intro (ldS (c := 1) hX hL hi' (by decide)) ?_
      rw [hX]
      refine call_S _ _ _ _ _ hX ?_
      refine op_fits (d := 0) hI (fun v μ1 ho hS => ?_)
      refine And.intro (ldS (c := 1) hS hL hi' (by decide)) ?_
      rw [hS]
      refine ho _ (fun μ2 hI2 => ?_)
      refine brT rfl ?_
      exact next μ2 hI2
    refine And.intro (fun _ => ?_) (fun _ => ?_)
    · refine run_go 25 ?_
      refine And.intro (ldS (c := 1) hX hL hi' (by decide)) ?_
      refine And.intro (ldS (c := 2) hX hL hi' (by decide)) ?_
      rw [hX]
      refine call_S _ _ _ _ _ hX ?_
      refine op_barred (d := 0) hI (fun v μ1 ho hS => ?_)
      refine And.intro (ldS (c := 1) hS hL hi' (by decide)) ?_
      refine And.intro (ldS (c := 2) hS hL hi' (by decide)) ?_
      rw [hS]
      refine ho _ (fun μ2 hI2 => ?_)
      refine brT rfl ?_
      exact next μ2 hI2
    refine And.intro (fun _ => ?_) (fun _ => ?_)
    · refine run_go 15 ?_
      refine And.intro (ldS (c := 1) hX hL hi' (by decide)) ?_
      rw [hX]
      refine call_S _ _ _ _ _ hX ?_
      refine op_question (d := 0) hI (fun v μ1 ho hS => ?_)
      refine And.intro (ldS (c := 1) hS hL hi' (by decide)) ?_
      rw [hS]
      refine ho _ (fun μ2 hI2 => ?_)
      refine brT rfl ?_
      exact next μ2 hI2
    refine And.intro (fun _ => ?_) (fun _ => ?_)
    · refine run_go 5 ?_
      refine call_S _ _ _ _ _ hX ?_
      refine op_quarrel (d := 0) hI (fun v μ1 ho hS => ?_)
      refine ho _ (fun μ2 hI2 => ?_)
      refine brT rfl ?_
      exact next μ2 hI2
    refine And.intro (fun _ => ?_) (fun _ => ?_)
    · refine run_go 25 ?_
      refine And.intro (ldS (c := 1) hX hL hi' (by decide)) ?_
      refine And.intro (ldS (c := 2) hX hL hi' (by decide)) ?_
      rw [hX]
      refine call_S _ _ _ _ _ hX ?_
      refine op_plan (d := 0) hI (fun v μ1 ho hS => ?_)
      refine And.intro (ldS (c := 1) hS hL hi' (by decide)) ?_
      refine And.intro (ldS (c := 2) hS hL hi' (by decide)) ?_
      rw [hS]
      refine ho _ (fun μ2 hI2 => ?_)
      refine brT rfl ?_
      exact next μ2 hI2
    refine And.intro (fun _ => ?_) (fun _ => ?_)
    · refine run_go 49 ?_
      refine And.intro (ldS (c := 1) hX hL hi' (by decide)) ?_
      refine And.intro (ldS (c := 2) hX hL hi' (by decide)) ?_
      refine And.intro (ldS (c := 3) hX hL hi' (by decide)) ?_
      rw [hX]
      refine call_S _ _ _ _ _ hX ?_
      refine op_feed (d := 0) hI (fun v μ1 ho hS => ?_)
      refine And.intro (ldS (c := 1) hS hL hi' (by decide)) ?_
      refine And.intro (ldS (c := 2) hS hL hi' (by decide)) ?_
      refine And.intro (ldS (c := 3) hS hL hi' (by decide)) ?_
      rw [hS]
      refine ho _ (fun μ2 hI2 => ?_)
      refine brT rfl ?_
      exact next μ2 hI2
    refine And.intro (fun _ => ?_) (fun _ => ?_)
    · refine run_go 5 ?_
      refine call_S _ _ _ _ _ hX ?_
      refine op_nevers (d := 0) hI (fun v μ1 ho hS => ?_)
      refine ho _ (fun μ2 hI2 => ?_)
      refine brT rfl ?_
      exact next μ2 hI2
    refine And.intro (fun _ => ?_) (fun _ => ?_)
    · refine run_go 5 ?_
      refine call_S _ _ _ _ _ hX ?_
      refine op_fault (d := 0) hI (fun v μ1 ho hS => ?_)
      refine ho _ (fun μ2 hI2 => ?_)
      refine brT rfl ?_
      exact next μ2 hI2
    refine And.intro (fun _ => ?_) (fun _ => ?_)
    · refine run_go 5 ?_
      refine call_S _ _ _ _ _ hX ?_
      refine op_broken (d := 0) hI (fun v μ1 ho hS => ?_)
      refine ho _ (fun μ2 hI2 => ?_)
      refine brT rfl ?_
      exact next μ2 hI2
    refine And.intro (fun _ => ?_) (fun _ => ?_)
    · refine run_go 35 ?_
      refine And.intro (ldS (c := 1) hX hL hi' (by decide)) ?_
      refine And.intro (ldS (c := 2) hX hL hi' (by decide)) ?_
      refine And.intro (ldS (c := 3) hX hL hi' (by decide)) ?_
      rw [hX]
      refine call_S _ _ _ _ _ hX ?_
      refine op_let (d := 0) hI (fun v μ1 ho hS => ?_)
      refine And.intro (ldS (c := 1) hS hL hi' (by decide)) ?_
      refine And.intro (ldS (c := 2) hS hL hi' (by decide)) ?_
      refine And.intro (ldS (c := 3) hS hL hi' (by decide)) ?_
      rw [hS]
      refine ho _ (fun μ2 hI2 => ?_)
      refine brT rfl ?_
      exact next μ2 hI2
    refine And.intro (fun _ => ?_) (fun _ => ?_)
    · refine run_go 45 ?_
      refine And.intro (ldS (c := 1) hX hL hi' (by decide)) ?_
      refine And.intro (ldS (c := 2) hX hL hi' (by decide)) ?_
      refine And.intro (ldS (c := 3) hX hL hi' (by decide)) ?_
      refine And.intro (ldS (c := 4) hX hL hi' (by decide)) ?_
      rw [hX]
      refine call_S _ _ _ _ _ hX ?_
      refine op_ways (d := 0) hI (fun v μ1 ho hS => ?_)
      refine And.intro (ldS (c := 1) hS hL hi' (by decide)) ?_
      refine And.intro (ldS (c := 2) hS hL hi' (by decide)) ?_
      refine And.intro (ldS (c := 3) hS hL hi' (by decide)) ?_
      refine And.intro (ldS (c := 4) hS hL hi' (by decide)) ?_
      rw [hS]
      refine ho _ (fun μ2 hI2 => ?_)
      refine brT rfl ?_
      exact next μ2 hI2
    refine And.intro (fun _ => ?_) (fun _ => ?_)
    · refine run_go 15 ?_
      refine And.intro (ldS (c := 1) hX hL hi' (by decide)) ?_
      rw [hX]
      refine call_S _ _ _ _ _ hX ?_
      refine op_kind (d := 0) hI (fun v μ1 ho hS => ?_)
      refine And.intro (ldS (c := 1) hS hL hi' (by decide)) ?_
      rw [hS]
      refine ho _ (fun μ2 hI2 => ?_)
      refine brT rfl ?_
      exact next μ2 hI2
    refine And.intro (fun _ => ?_) (fun _ => ?_)
    · refine run_go 25 ?_
      refine And.intro (ldS (c := 1) hX hL hi' (by decide)) ?_
      refine And.intro (ldS (c := 2) hX hL hi' (by decide)) ?_
      rw [hX]
      refine call_S _ _ _ _ _ hX ?_
      refine op_as (d := 0) hI (fun v μ1 ho hS => ?_)
      refine And.intro (ldS (c := 1) hS hL hi' (by decide)) ?_
      refine And.intro (ldS (c := 2) hS hL hi' (by decide)) ?_
      rw [hS]
      refine ho _ (fun μ2 hI2 => ?_)
      refine brT rfl ?_
      exact next μ2 hI2
    refine And.intro (fun _ => ?_) (fun _ => ?_)
    · refine run_go 25 ?_
      refine And.intro (ldS (c := 1) hX hL hi' (by decide)) ?_
      refine And.intro (ldS (c := 2) hX hL hi' (by decide)) ?_
      rw [hX]
      refine call_S _ _ _ _ _ hX ?_
      refine op_ask (d := 0) hI (fun v μ1 ho hS => ?_)
      refine And.intro (ldS (c := 1) hS hL hi' (by decide)) ?_
      refine And.intro (ldS (c := 2) hS hL hi' (by decide)) ?_
      rw [hS]
      refine ho _ (fun μ2 hI2 => ?_)
      refine brT rfl ?_
      exact next μ2 hI2
    refine And.intro (fun _ => ?_) (fun _ => ?_)
    · refine run_go 15 ?_
      refine And.intro (ldS (c := 1) hX hL hi' (by decide)) ?_
      rw [hX]
      refine call_S _ _ _ _ _ hX ?_
      refine op_trace (d := 0) hI (fun v μ1 ho hS => ?_)
      refine And.intro (ldS (c := 1) hS hL hi' (by decide)) ?_
      rw [hS]
      refine ho _ (fun μ2 hI2 => ?_)
      refine brT rfl ?_
      exact next μ2 hI2
    refine And.intro (fun _ => ?_) (fun _ => ?_)
    · refine run_go 15 ?_
      refine And.intro (ldS (c := 1) hX hL hi' (by decide)) ?_
      rw [hX]
      refine call_S _ _ _ _ _ hX ?_
      refine op_count (d := 0) hI (fun v μ1 ho hS => ?_)
      refine And.intro (ldS (c := 1) hS hL hi' (by decide)) ?_
      rw [hS]
      refine ho _ (fun μ2 hI2 => ?_)
      refine brT rfl ?_
      exact next μ2 hI2
    refine And.intro (fun _ => ?_) (fun _ => ?_)
    · refine run_go 5 ?_
      refine call_S _ _ _ _ _ hX ?_
      refine op_status (d := 0) hI (fun v μ1 ho hS => ?_)
      refine ho _ (fun μ2 hI2 => ?_)
      refine brT rfl ?_
      exact next μ2 hI2
    exact next μ hI
end LAW
