/-! the reference: the end of an order; rows copied, rows held against each other -/
theorem nI_62k (r k : Nat) : 62 * nI r + nI k = nI (62 * r + k) := by
  show nI 62 * nI r + nI k = _
  simp only [nI_mul, nI_add]
/-- the first m numbers of a row copied -/
def cpR (μ : sM) (u r m : Nat) : sM := (fun a i k => if a = 42 ∧ i = 0 ∧ 62 * r ≤ k ∧ k < 62 * r + m then μ.1 42 0 (62 * u + (k - 62 * r)) else μ.1 a i k, μ.2)
theorem cpR_0 (μ : sM) (u r : Nat) : cpR μ u r 0 = μ := by
  refine Prod.ext ?_ rfl
  funext a i k
  exact if_neg (fun z => by omega)
theorem cpR_s {μ : sM} {u r m : Nat} (hu : u ≠ r) (hm : m < 62) : m_i (cpR μ u r m) 42 0 (62 * r + m) ((cpR μ u r m).1 42 0 (62 * u + m)) = cpR μ u r (m + 1) := by
  refine Prod.ext ?_ rfl
  funext a i k
  show (if a = 42 ∧ i = 0 ∧ k = 62 * r + m then (if 42 = 42 ∧ 0 = 0 ∧ 62 * r ≤ 62 * u + m ∧ 62 * u + m < 62 * r + m then _ else μ.1 42 0 (62 * u + m)) else (if a = 42 ∧ i = 0 ∧ 62 * r ≤ k ∧ k < 62 * r + m then _ else μ.1 a i k)) = if a = 42 ∧ i = 0 ∧ 62 * r ≤ k ∧ k < 62 * r + (m + 1) then μ.1 42 0 (62 * u + (k - 62 * r)) else μ.1 a i k
  by_cases e : a = 42 ∧ i = 0 ∧ k = 62 * r + m
  · rw [if_pos e, if_neg (fun z => by omega), if_pos ⟨e.1, e.2.1, by omega, by omega⟩, show k - 62 * r = m by omega]
  · rw [if_neg e]
    by_cases e2 : a = 42 ∧ i = 0 ∧ 62 * r ≤ k ∧ k < 62 * r + m
    · rw [if_pos e2, if_pos ⟨e2.1, e2.2.1, e2.2.2.1, by omega⟩]
    · rw [if_neg e2, if_neg (fun z => e2 ⟨z.1, z.2.1, z.2.2.1, by have : k ≠ 62 * r + m := fun q => e ⟨z.1, z.2.1, q⟩; omega⟩)]
section RT
variable {d t n k c s a b r u o i rel : Nat} {μ : sM} {Q : sQ} {so wt : Nat → Nat} {T T' : tT} {x y z w : Int32}
theorem r12_copyTable (hx : x = nI u) (hy : y = nI r) (hu : u < 108) (hr : r < 108) (hne : u ≠ r) (hT : tabR μ u T) (h : ∀ μ', agR r μ μ' → tabR μ' r T → Q 0 0 (0, 0) μ') : Call (d + 1) n12_copyTable [sR 41 0, sI x, sI y] μ Q := by
  subst hx; subst hy
  refine call_go (cd := k12_copyTable) 2 rfl rfl ?_
  have key : Run k12_copyTable (Call d) Q 2 [some (sR 41 0), some (sI (nI u)), some (sI (nI r)), some (sI 0)] [] (cpR μ u r 0) := by
    refine loopF (cd := k12_copyTable) (d := d) (Q := Q) 62 (fun _ j => [some (sR 41 0), some (sI (nI u)), some (sI (nI r)), some (sI j)]) (fun i => cpR μ u r i) 2 ?_ (fun i hi kk => ?_)
    · refine run_go 20 ?_
      refine brT (by decide) ?_
      refine h _ ⟨fun a i k z => ?_, rfl⟩ ⟨fun c hc => ?_, fun c i hc hi => ?_, fun k hk => ?_⟩
      · exact if_neg (fun q => z ⟨q.1, by omega, by omega⟩)
      · refine (if_pos ⟨rfl, rfl, by omega, by omega⟩).trans ?_
        rw [show 62 * u + (62 * r + 7 * c - 62 * r) = 62 * u + 7 * c by omega]; exact hT.1 c hc
      · refine (if_pos ⟨rfl, rfl, by omega, by omega⟩).trans ?_
        rw [show 62 * u + (62 * r + 7 * c + 1 + i - 62 * r) = 62 * u + 7 * c + 1 + i by omega]; exact hT.2.1 c i hc hi
      · refine (if_pos ⟨rfl, rfl, by omega, by omega⟩).trans ?_
        rw [show 62 * u + (62 * r + 56 + k - 62 * r) = 62 * u + 56 + k by omega]; exact hT.2.2 k hk
    · refine run_go 3 ?_
      refine brF (by simp (disch := first | omega | (simp (disch := omega) only [nI_toInt, Int32.reduceToInt, i_sub, i_add, i_mul]; omega)) only [iNONE, i_lt, i_le, i_eq, i_in, nI_toInt, Int32.reduceToInt, i_sub, i_add, i_mul]; omega) ?_
      refine run_go 18 ?_
      refine And.intro (by rw [nI_62k]; exact vp_in_nI (by omega) (by decide)) ?_
      refine And.intro (by rw [nI_62k]; exact vp_in_nI (by omega) (by decide)) ?_
      rw [nI_62k, nI_62k, nI_clamp (by omega), nI_clamp (by omega), cpR_s hne hi]
      exact kk
  rw [cpR_0] at key
  exact key
end RT
