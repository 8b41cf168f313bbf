/-! tokens of the tape -/
def cls (b : Nat) : Nat := if 97 ≤ b ∧ b ≤ 122 then 1 else if 48 ≤ b ∧ b ≤ 57 then 2 else if b = 32 ∨ b = 10 then 5 else if b = 59 then 3 else 4
def skF (P : Nat → Bool) : Nat → Nat → Nat
  | 0, p => p
  | f + 1, p => if P p then skF P f (p + 1) else p
def isC (tl : Nat) (tp : Nat → Nat) (c j : Nat) : Bool := decide (j < tl) && Nat.beq (cls (tp j)) c
def xS (tl : Nat) (tp : Nat → Nat) (p : Nat) : Nat := skF (isC tl tp 5) tl p
def xC (tl : Nat) (tp : Nat → Nat) (s : Nat) : Nat := if s < tl then cls (tp s) else 0
def xE (tl : Nat) (tp : Nat → Nat) (s : Nat) : Nat := if xC tl tp s = 1 ∨ xC tl tp s = 2 then skF (isC tl tp (xC tl tp s)) tl s else s + 1
def xK (tl : Nat) (tp : Nat → Nat) (s : Nat) : Nat := if xC tl tp s = 2 ∧ 3 < xE tl tp s - s then 4 else xC tl tp s
theorem skF_sp {P : Nat → Bool} {tl : Nat} (hP : ∀ j, P j = true → j < tl) : ∀ f p, tl ≤ p + f → p ≤ skF P f p ∧ (∀ j, p ≤ j → j < skF P f p → P j = true) ∧ ¬ P (skF P f p) = true
  | 0, p, h => ⟨Nat.le_refl p, fun j h1 h2 => absurd h2 (show ¬ j < p by omega), fun z => by have := hP _ z; have : skF P 0 p = p := rfl; omega⟩
  | f + 1, p, h => by
    unfold skF
    by_cases e : P p = true
    · rw [if_pos e]
      have ih := skF_sp hP f (p + 1) (by omega)
      refine ⟨by omega, fun j h1 h2 => ?_, ih.2.2⟩
      by_cases q : j = p
      · subst q; exact e
      · exact ih.2.1 j (by omega) h2
    · rw [if_neg e]
      exact ⟨Nat.le_refl p, fun j h1 h2 => absurd h2 (by omega), e⟩
section OP
variable {d n k c s a b r u o i m p q t tl j : Nat} {tp : Nat → Nat} {μ μ' μ'' M : sM} {Q : sQ} {x y z v : Int32} {ξ : Nat → Nat → Int32}
theorem isC_iff : isC tl tp c j = true ↔ j < tl ∧ cls (tp j) = c := by
  unfold isC
  rw [Bool.and_eq_true, decide_eq_true_iff]
  exact ⟨fun z => ⟨z.1, Nat.eq_of_beq_eq_true z.2⟩, fun z => ⟨z.1, by rw [z.2]; exact Nat.beq_refl c⟩⟩
theorem isC_lt : ∀ j, isC tl tp c j = true → j < tl := fun _ z => (isC_iff.mp z).1
theorem x_sp : p ≤ xS tl tp p ∧ (∀ j, p ≤ j → j < xS tl tp p → j < tl ∧ cls (tp j) = 5) ∧ ¬ (xS tl tp p < tl ∧ cls (tp (xS tl tp p)) = 5) ∧ (p ≤ tl → xS tl tp p ≤ tl) := by
  have h := skF_sp (P := isC tl tp 5) (tl := tl) isC_lt tl p (by omega)
  refine ⟨h.1, fun j h1 h2 => isC_iff.mp (h.2.1 j h1 h2), fun z => h.2.2 (isC_iff.mpr z), fun z => ?_⟩
  refine Classical.byContradiction (fun w => ?_)
  have := isC_lt _ (h.2.1 tl z (show tl < xS tl tp p by omega))
  omega
theorem x_run (h : xC tl tp s = 1 ∨ xC tl tp s = 2) : s < xE tl tp s ∧ xE tl tp s ≤ tl ∧ (∀ j, s ≤ j → j < xE tl tp s → j < tl ∧ cls (tp j) = xC tl tp s) ∧ ¬ (xE tl tp s < tl ∧ cls (tp (xE tl tp s)) = xC tl tp s) := by
  have hs : s < tl := by
    unfold xC at h
    by_cases e : s < tl
    · exact e
    · rw [if_neg e] at h; omega
  have hc : xC tl tp s = cls (tp s) := if_pos hs
  have h2 := skF_sp (P := isC tl tp (xC tl tp s)) (tl := tl) isC_lt tl s (by omega)
  have he : xE tl tp s = skF (isC tl tp (xC tl tp s)) tl s := if_pos h
  rw [he]
  have hne : skF (isC tl tp (xC tl tp s)) tl s ≠ s := fun z => h2.2.2 (by rw [z]; exact isC_iff.mpr ⟨hs, hc.symm⟩)
  refine ⟨by omega, ?_, fun j h3 h4 => isC_iff.mp (h2.2.1 j h3 h4), fun z => h2.2.2 (isC_iff.mpr z)⟩
  refine Classical.byContradiction (fun w => ?_)
  have := isC_lt _ (h2.2.1 tl (by omega) (by omega))
  omega
theorem x_one (h : ¬ (xC tl tp s = 1 ∨ xC tl tp s = 2)) : xE tl tp s = s + 1 := if_neg h
theorem cls_le : 1 ≤ cls b ∧ cls b ≤ 5 := by
  unfold cls
  split
  · omega
  · split
    · omega
    · split
      · omega
      · split <;> omega
/-- the class's tape, and the reference's -/
def tpC (μ : sM) (tl : Nat) (tp : Nat → Nat) : Prop := tl ≤ 300 ∧ μ.1 33 0 2 = nI tl ∧ ∀ k, k < tl → tp k < 256 ∧ μ.1 34 0 k = byI (tp k)
def tpR (μ : sM) (tl : Nat) (tp : Nat → Nat) : Prop := tl ≤ 300 ∧ μ.1 41 0 23 = nI tl ∧ ∀ k, k < tl → tp k < 256 ∧ μ.1 55 0 k = nI (tp k)
theorem by_cmp (hb : b < 256) : (byI b).toInt = if b < 128 then (b : Int) else (b : Int) - 256 := by
  unfold byI
  split
  · rw [nI_toInt (by omega)]
  · have e : (256 : Int32).toInt = 256 := by decide
    rw [i_sub (by rw [nI_toInt (by omega), e]; omega) (by rw [nI_toInt (by omega), e]; omega), nI_toInt (by omega), e]
theorem c4_classAt (hx : x = nI j) (hj : j ≤ 301) (hT : tpC μ tl tp) (h : Q (nI (xC tl tp j)) 0 (0, 0) μ) : Call (d + 1) n4_classAt [sR 33 0, sI x] μ Q := by
  subst hx
  have ht := hT.1
  refine call_go (cd := k4_classAt) 60 rfl rfl ?_
  refine brF (by simp (disch := first | omega | (simp (disch := omega) only [nI_toInt, Int32.reduceToInt, i_sub, i_add, i_mul]; omega)) only [iNONE, i_lt, i_le, i_eq, i_in, nI_toInt, Int32.reduceToInt, i_sub, i_add, i_mul]; omega) ?_
  by_cases e : j < tl
  · refine brF (by simp (disch := first | omega | (simp (disch := omega) only [nI_toInt, Int32.reduceToInt, i_sub, i_add, i_mul]; omega)) only [hT.2.1, iNONE, i_lt, i_le, i_eq, i_in, nI_toInt, Int32.reduceToInt, i_sub, i_add, i_mul]; omega) ?_
    refine brT (by simp (disch := first | omega | (simp (disch := omega) only [nI_toInt, Int32.reduceToInt, i_sub, i_add, i_mul]; omega)) only [iNONE, i_lt, i_le, i_eq, i_in, nI_toInt, Int32.reduceToInt, i_sub, i_add, i_mul]; omega) ?_
    refine And.intro (by simp (disch := first | omega | (simp (disch := omega) only [nI_toInt, Int32.reduceToInt, i_sub, i_add, i_mul]; omega)) only [iNONE, i_lt, i_le, i_eq, i_in, nI_toInt, Int32.reduceToInt, i_sub, i_add, i_mul]; omega) ?_
    have hb := hT.2.2 j e
    have hv := by_cmp hb.1
    rw [nI_clamp (by omega), hb.2]
    rw [show xC tl tp j = cls (tp j) from if_pos e] at h
    unfold cls at h
    generalize tp j = B at h hb hv ⊢
    have q32 : byI B = 32 ↔ B = 32 := by
      rw [i_eq, hv, show (32 : Int32).toInt = 32 from by decide]; split <;> omega
    have q10 : byI B = 10 ↔ B = 10 := by
      rw [i_eq, hv, show (10 : Int32).toInt = 10 from by decide]; split <;> omega
    have q59 : byI B = 59 ↔ B = 59 := by
      rw [i_eq, hv, show (59 : Int32).toInt = 59 from by decide]; split <;> omega
    have q97 : byI B < 97 ↔ ¬ (97 ≤ B ∧ B < 128) := by
      rw [i_lt, hv, show (97 : Int32).toInt = 97 from by decide]; split <;> omega
    have q122 : 122 < byI B ↔ 122 < B ∧ B < 128 := by
      rw [i_lt, hv, show (122 : Int32).toInt = 122 from by decide]; split <;> omega
    have q48 : byI B < 48 ↔ ¬ (48 ≤ B ∧ B < 128) := by
      rw [i_lt, hv, show (48 : Int32).toInt = 48 from by decide]; split <;> omega
    have q57 : 57 < byI B ↔ 57 < B ∧ B < 128 := by
      rw [i_lt, hv, show (57 : Int32).toInt = 57 from by decide]; split <;> omega
    by_cases c1 : 97 ≤ B ∧ B ≤ 122
    · rw [if_pos c1] at h
      refine brF (by rw [q97]; omega) ?_
      refine brF (by rw [q122]; omega) ?_
      exact h
    · rw [if_neg c1] at h
      have go : Run k4_classAt (Call d) Q 42 [some (sR 33 0), some (sI (nI j)), some (sI (byI B))] [] μ := by
        refine run_go 30 ?_
        by_cases c2 : 48 ≤ B ∧ B ≤ 57
        · rw [if_pos c2] at h
          refine brF (by rw [q48]; omega) ?_
          refine brF (by rw [q57]; omega) ?_
          exact h
        · rw [if_neg c2] at h
          have go2 : Run k4_classAt (Call d) Q 56 [some (sR 33 0), some (sI (nI j)), some (sI (byI B))] [] μ := by
            refine run_go 30 ?_
            by_cases c3 : B = 32
            · rw [if_pos (Or.inl c3)] at h
              refine brT (q32.mpr c3) ?_
              exact h
            · refine brF (fun z => c3 (q32.mp z)) ?_
              by_cases c4 : B = 10
              · rw [if_pos (Or.inr c4)] at h
                refine brnT (q10.mpr c4) ?_
                exact h
              · rw [if_neg (by omega)] at h
                refine brnF (fun z => c4 (q10.mp z)) ?_
                by_cases c5 : B = 59
                · rw [if_pos c5] at h
                  refine brnT (q59.mpr c5) ?_
                  exact h
                · rw [if_neg c5] at h
                  refine brnF (fun z => c5 (q59.mp z)) ?_
                  exact h
          by_cases c6 : byI B < 48
          · refine brT c6 ?_
            exact seg_stop 27 go2
          · refine brF c6 ?_
            refine brT (by rw [q57]; rw [q48] at c6; omega) ?_
            exact seg_stop 24 go2
      by_cases c6 : byI B < 97
      · refine brT c6 ?_
        exact seg_stop 43 go
      · refine brF c6 ?_
        refine brT (by rw [q122]; rw [q97] at c6; omega) ?_
        exact seg_stop 40 go
  · rw [show xC tl tp j = 0 from if_neg e] at h
    refine brT (by simp (disch := first | omega | (simp (disch := omega) only [nI_toInt, Int32.reduceToInt, i_sub, i_add, i_mul]; omega)) only [hT.2.1, iNONE, i_lt, i_le, i_eq, i_in, nI_toInt, Int32.reduceToInt, i_sub, i_add, i_mul]; omega) ?_
    exact h
theorem r12_byteAt (hx : x = nI j) (hj : j ≤ 301) (hT : tpR μ tl tp) (h : Q (if j < tl then nI (tp j) else nONE) 0 (0, 0) μ) : Call (d + 1) n12_byteAt [sR 41 0, sI x] μ Q := by
  subst hx
  have ht := hT.1
  refine call_go (cd := k12_byteAt) 20 rfl rfl ?_
  by_cases e : j < tl
  · rw [if_pos e] at h
    refine brF (by simp (disch := first | omega | (simp (disch := omega) only [nI_toInt, Int32.reduceToInt, i_sub, i_add, i_mul]; omega)) only [hT.2.1, iNONE, i_lt, i_le, i_eq, i_in, nI_toInt, Int32.reduceToInt, i_sub, i_add, i_mul]; omega) ?_
    refine And.intro (by simp (disch := first | omega | (simp (disch := omega) only [nI_toInt, Int32.reduceToInt, i_sub, i_add, i_mul]; omega)) only [iNONE, i_lt, i_le, i_eq, i_in, nI_toInt, Int32.reduceToInt, i_sub, i_add, i_mul]; omega) ?_
    rw [nI_clamp (by omega), (hT.2.2 j e).2]
    exact h
  · rw [if_neg e] at h
    refine brT (by simp (disch := first | omega | (simp (disch := omega) only [nI_toInt, Int32.reduceToInt, i_sub, i_add, i_mul]; omega)) only [hT.2.1, iNONE, i_lt, i_le, i_eq, i_in, nI_toInt, Int32.reduceToInt, i_sub, i_add, i_mul]; omega) ?_
    exact h
end OP
