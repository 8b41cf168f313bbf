/-! more locals do no harm -/
def subL (ls ls' : sO) : Prop := ∀ i v, l_at ls i = some v → l_at ls' i = some v
theorem subL.rf {ls : sO} : subL ls ls := fun _ _ h => h
theorem l_at_kill_of {ls : sO} {i j : Nat} {v : sv} (h : l_at ls j = some v) (hn : ¬ (j + 1 = i ∧ ∃ x, v = sL x)) : l_at (lkill ls i) j = some v := by
  unfold lkill
  cases i with
  | zero => exact h
  | succ n =>
    dsimp only
    split
    · rename_i x hx
      rw [l_at_put]
      by_cases e : j = n
      · subst e
        rw [h] at hx
        exact absurd ⟨rfl, x, Option.some.inj hx⟩ hn
      · rw [if_neg e]; exact h
    · exact h
theorem subL.st {ls ls' : sO} (h : subL ls ls') (i : Nat) (v : Option sv) : subL (lput (lkill ls i) i v) (lput (lkill ls' i) i v) := by
  intro j w hw
  rw [l_at_put] at hw ⊢
  by_cases e : j = i
  · rw [if_pos e] at hw ⊢; exact hw
  · rw [if_neg e] at hw ⊢
    obtain ⟨h1, h2⟩ := l_at_kill hw
    refine l_at_kill_of (h j w h1) (fun ⟨z, x, hx⟩ => h2 ((fun _ => 0, fun _ _ => 0), fun _ _ => 0, fun _ => 0, fun _ _ => 0, fun _ => 0) ⟨z, ?_⟩)
    subst hx
    rfl
theorem subL.none {ls ls' : sO} (h : subL ls ls') (i : Nat) : subL (lput ls i none) (lput ls' i none) := by
  intro j w hw
  rw [l_at_put] at hw ⊢
  by_cases e : j = i
  · rw [if_pos e] at hw; cases hw
  · rw [if_neg e] at hw ⊢; exact h j w hw
set_option maxHeartbeats 4000000 in
theorem stepO_sub {C : sC} (hC : monC C C) {Q : sQ} {K K' : sP} (hK : ∀ pc ls ls' st μ, subL ls ls' → K pc ls st μ → K' pc ls' st μ) (op : Instr) (nx a : Nat) (c0 : Int32) (c1 : Int64) {ls ls' : sO} (hs : subL ls ls') (st : List sv) (μ : sM) :
    stepO op nx a c0 c1 C Q K ls st μ → stepO op nx a c0 c1 C Q K' ls' st μ := by
  cases op <;> simp only [stepO] <;> try exact id
  all_goals first
    | exact hK _ _ _ _ _ hs
    | exact pI_mono fun _ _ => hK _ _ _ _ _ hs
    | exact pII_mono fun _ _ _ => hK _ _ _ _ _ hs
    | exact pL_mono fun _ _ => hK _ _ _ _ _ hs
    | exact pLL_mono fun _ _ _ => hK _ _ _ _ _ hs
    | exact pLI_mono fun _ _ _ => hK _ _ _ _ _ hs
    | exact pII_mono fun _ _ _ h => ⟨h.1, hK _ _ _ _ _ hs h.2⟩
    | exact pII_mono fun _ _ _ => cnP_mono (hK _ _ _ _ _ hs) (hK _ _ _ _ _ hs)
    | exact pI_mono fun _ _ => cnP_mono (hK _ _ _ _ _ hs) (hK _ _ _ _ _ hs)
    | exact pI_mono fun _ _ => swP_mono (fun _ => hK _ _ _ _ _ hs) _ _ _
    | (refine pI_mono fun _ _ => ?_; rw [l_kill_eq, l_kill_eq, l_put_eq, l_put_eq]; exact hK _ _ _ _ _ (hs.st _ _))
    | (refine pR_mono fun _ _ _ => ?_; rw [l_kill_eq, l_kill_eq, l_put_eq, l_put_eq]; exact hK _ _ _ _ _ (hs.st _ _))
    | (refine pL_mono fun _ _ => ?_; rw [l_kill_eq, l_kill_eq, l_put_eq, l_put_eq, l_put_eq, l_put_eq]; exact hK _ _ _ _ _ ((hs.st _ _).none _))
    | (cases hv : l_at ls a with
       | none => exact fun h => absurd h id
       | some v => rw [hs a v hv]; rcases v with x | x | ⟨t, i⟩ <;> first | exact fun h => absurd h id | exact hK _ _ _ _ _ hs | (dsimp only; rw [l_kill_eq, l_kill_eq, l_put_eq, l_put_eq]; exact hK _ _ _ _ _ (hs.st _ _)))
    | (split <;> first | exact id | exact hK _ _ _ _ _ hs)
    | (refine pR_mono fun _ _ _ => cond_mono ?_; split <;> exact hK _ _ _ _ _ hs)
    | (refine pRI_mono fun _ _ _ _ => cond_mono ?_; split <;> first | exact id | exact hK _ _ _ _ _ hs)
    | (refine pRI_mono fun _ _ _ _ => ?_; split <;> first | exact id | exact fun h => ⟨h.1, hK _ _ _ _ _ hs h.2⟩)
    | (refine pRII_mono fun _ _ _ _ _ => ?_; split <;> first | exact id | exact fun h => ⟨h.1, hK _ _ _ _ _ hs h.2⟩)
    | (refine pRIL_mono fun _ _ _ _ _ => ?_; split <;> first | exact id | exact fun h => ⟨h.1, hK _ _ _ _ _ hs h.2⟩)
    | (refine pR_mono fun _ _ _ => ?_; split <;> first | exact id | exact hK _ _ _ _ _ hs)
    | (refine popK_mono (fun _ _ => cond_mono ?_) _ _ _; split <;> exact hC _ _ _ _ _ fun _ _ _ _ => hK _ _ _ _ _ hs)
    | (split
       · refine pCP_mono fun _ _ _ _ _ _ _ _ => cond_mono ?_
         split
         · exact fun h => ⟨h.1, hK _ _ _ _ _ hs h.2⟩
         · exact id
       · exact pR_mono fun _ _ _ => cond_mono (hK _ _ _ _ _ hs)
       · exact pRI_mono fun _ _ _ _ => cond_mono fun h => ⟨h.1, hK _ _ _ _ _ hs h.2⟩
       · exact pI_mono fun _ _ => cond_mono (hK _ _ _ _ _ hs)
       · exact pII_mono fun _ _ _ => cond_mono (hK _ _ _ _ _ hs)
       · exact pII_mono fun _ _ _ => cond_mono (hK _ _ _ _ _ hs)
       · exact id)
theorem run_sub {cd : sK} {d : Nat} {Q : sQ} {pc : Nat} {ls ls' : sO} {st : List sv} {μ : sM} (h : Run cd (Call d) Q pc ls st μ) (hs : subL ls ls') : Run cd (Call d) Q pc ls' st μ := by
  refine h (fun pc ls st μ => ∀ ls', subL ls ls' → Run cd (Call d) Q pc ls' st μ) (fun pc ls st μ hst ls' hs => ?_) ls' hs
  refine Run.fold (Call.mon d) ?_
  unfold stepW at hst ⊢
  revert hst
  generalize cd pc = z
  obtain ⟨op, nx, a, c0, c1⟩ := z
  exact stepO_sub (Call.mon d) (fun pc ls ls' st μ hs h => h ls' hs) op nx a c0 c1 hs st μ
/-- locals that are named first -/
theorem subL.app : ∀ (ls r : sO), subL ls (ls ++ r)
  | [], _, _, _, h => by cases h
  | _ :: _, _, 0, _, h => h
  | _ :: l, r, i + 1, v, h => subL.app l r i v h
