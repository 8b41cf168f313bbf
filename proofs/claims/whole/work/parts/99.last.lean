def T_spotOf (μ : sM) (t : Nat) (x : Int32) : Int32 := if x < 0 then nONE else if 6 ≤ x then nONE else μ.1 9 t x.toNatClampNeg
theorem c9_spotOf {d : Nat} {Q : sQ} {μ : sM} {t : Nat} {x : Int32} (h : Q (T_spotOf μ t x) 0 (0, 0) μ) : Call (d + 1) n9_spotOf [sR 8 t, sI x] μ Q := by
  refine call_go (cd := k9_spotOf) 20 rfl rfl ?_
  unfold T_spotOf at h
  refine And.intro (fun c1 => ?_) (fun c1 => ?_)
  · rw [if_pos c1] at h; exact h
  · rw [if_neg c1] at h
    refine And.intro (fun c2 => ?_) (fun c2 => ?_)
    · rw [if_pos c2] at h; exact h
    · rw [if_neg c2] at h
      refine And.intro ?_ h
      rw [i_in]; rw [i_lt] at c1; rw [i_le] at c2
      simp at c1 c2
      omega
