/-! the reference's tables: reading -/
def stkR (μ : sM) (n : Nat) (so wt : Nat → Nat) : Prop := μ.1 41 0 3 = nI n ∧ n ≤ 6 ∧ ∀ k, k < n → μ.1 43 0 k = nI (so k) ∧ μ.1 44 0 k = nI (wt k) ∧ so k < 4 ∧ wt k ≤ 20
def m9 (x : Nat) : Int32 := if x = 9 then -1 else nI x
theorem m9_n {x : Nat} (h : x ≠ 9) : m9 x = nI x := if_neg h
theorem nI_67 (r c : Nat) : 62 * nI r + 7 * nI c = nI (62 * r + 7 * c) := by
  show nI 62 * nI r + nI 7 * nI c = _
  simp only [nI_mul, nI_add]
theorem nI_56 (r k : Nat) : 62 * nI r + 56 + nI k = nI (62 * r + 56 + k) := by
  show nI 62 * nI r + nI 56 + nI k = _
  simp only [nI_mul, nI_add]
section RT
variable {d t n k c s a b r u o i : Nat} {μ : sM} {Q : sQ} {so wt : Nat → Nat} {T : tT} {x y z : Int32}
theorem r12_sizeOf (hx : x = nI r) (hy : y = nI c) (hr : r < 108) (hc : c < 8) (h : Q (μ.1 42 0 (62 * r + 7 * c)) 0 (0, 0) μ) : Call (d + 1) n12_sizeOf [sR 41 0, sI x, sI y] μ Q := by
  subst hx; subst hy
  refine call_go (cd := k12_sizeOf) 20 rfl rfl ?_
  refine And.intro (by rw [nI_67]; exact vp_in_nI (by omega) (by decide)) ?_
  rw [nI_67, nI_clamp (by omega)]
  exact h
theorem r12_thingAt (hx : x = nI r) (hy : y = nI c) (hz : z = nI i) (hr : r < 108) (hc : c < 8) (hi : i < 6) (h : Q (μ.1 42 0 (62 * r + 7 * c + 1 + i)) 0 (0, 0) μ) : Call (d + 1) n12_thingAt [sR 41 0, sI x, sI y, sI z] μ Q := by
  subst hx; subst hy; subst hz
  refine call_go (cd := k12_thingAt) 30 rfl rfl ?_
  refine And.intro (by rw [nI_62]; exact vp_in_nI (by omega) (by decide)) ?_
  rw [nI_62, nI_clamp (by omega)]
  exact h
theorem r12_boxOf (hx : x = nI r) (hy : y = nI k) (hr : r < 108) (hT : tabR μ r T) (hk : k < 6) (h : Q (m9 (zB T k)) 0 (0, 0) μ) : Call (d + 1) n12_boxOf [sR 41 0, sI x, sI y] μ Q := by
  subst hx; subst hy
  refine call_go (cd := k12_boxOf) 30 rfl rfl ?_
  refine And.intro (by rw [nI_56]; exact vp_in_nI (by omega) (by decide)) ?_
  rw [nI_56, nI_clamp (by omega), hT.2.2 k hk]
  exact h
theorem wf_bx (hw : wfT so n T) (hk : k < n) : zB T k = 9 ∨ zB T k < n := by
  by_cases e : zB T k = 9
  · exact Or.inl e
  · exact Or.inr (hw.2.2.1 k hk e).1
theorem r12_cellOf (hx : x = nI r) (hy : y = nI k) (hw : wfT so n T) (hn : n ≤ 6) (hr : r < 108) (hT : tabR μ r T) (hk : k < n) (h : Q (nI (ccT T k)) 0 (0, 0) μ) : Call (d + 2) n12_cellOf [sR 41 0, sI x, sI y] μ Q := by
  subst hx; subst hy
  have key : ∀ f : Nat, f < n → zB T f = 9 → zC T f = ccT T k → Run k12_cellOf (Call (d + 1)) Q 23 [some (sR 41 0), some (sI (nI r)), some (sI (nI k)), some (sI (nI f)), some (sI 0)] [] μ := by
    intro f hf hb hc
    have hq := hw.2.1 f hf hb
    refine loopS (cd := k12_cellOf) (d := d + 1) (Q := Q) 8 (fun c => c = zC T f) (fun j => [some (sR 41 0), some (sI (nI r)), some (sI (nI k)), some (sI (nI f)), some (sI j)]) μ 23 (fun hp => absurd rfl (hp _ hq.1)) (fun c hc8 hp kk => ?_)
    have hz := wf_size hw hc8
    refine run_go 3 ?_
    refine brF (by simp (disch := first | omega | (simp (disch := omega) only [nI_toInt, Int32.reduceToInt, i_sub, i_add, i_mul]; omega)) only [iNONE, i_lt, i_le, i_eq, i_in, nI_toInt, Int32.reduceToInt, i_sub, i_add, i_mul]; omega) ?_
    refine run_go 2 ?_
    refine loopS (cd := k12_cellOf) (d := d + 1) (Q := Q) (zS T c) (fun i => zA T c i = f) (fun j => [some (sR 41 0), some (sI (nI r)), some (sI (nI k)), some (sI (nI f)), some (sI (nI c)), some (sI j)]) μ 33 (fun hp2 => ?_) (fun i hi hp2 kk2 => ?_)
    · refine run_go 6 ?_
      refine r12_sizeOf rfl rfl hr hc8 ?_
      rw [hT.1 c hc8]
      refine brT (by simp (disch := first | omega | (simp (disch := omega) only [nI_toInt, Int32.reduceToInt, i_sub, i_add, i_mul]; omega)) only [iNONE, i_lt, i_le, i_eq, i_in, nI_toInt, Int32.reduceToInt, i_sub, i_add, i_mul]; omega) ?_
      refine run_go 2 ?_
      refine run_sub (kk (fun z => ?_)) (subL.app _ [some (sI (nI (zS T c)))])
      have z : c = zC T f := z
      subst z
      exact hp2 _ hq.2.1 hq.2.2
    · have hA := hw.1 c i hc8 hi
      refine run_go 6 ?_
      refine r12_sizeOf rfl rfl hr hc8 ?_
      rw [hT.1 c hc8]
      refine brF (by simp (disch := first | omega | (simp (disch := omega) only [nI_toInt, Int32.reduceToInt, i_sub, i_add, i_mul]; omega)) only [iNONE, i_lt, i_le, i_eq, i_in, nI_toInt, Int32.reduceToInt, i_sub, i_add, i_mul]; omega) ?_
      refine run_go 7 ?_
      refine r12_thingAt rfl rfl rfl hr hc8 (by omega) ?_
      rw [hT.2.1 c i hc8 (by omega), if_pos hi]
      by_cases e : zA T c i = f
      · refine brnT (by rw [e]) ?_
        refine run_go 2 ?_
        have e2 : c = ccT T k := by rw [← hc, ← e]; exact hA.2.2.1.symm
        rw [← e2] at h
        exact h
      · refine brnF (fun z => e ((nI_eq (by omega) (by omega)).mp z)) ?_
        refine run_go 2 ?_
        exact kk2 e
  refine call_go (cd := k12_cellOf) 5 rfl rfl ?_
  refine r12_boxOf rfl rfl hr hT (by omega) ?_
  by_cases e : zB T k = 9
  · refine brT (by rw [e]; decide) ?_
    refine run_go 4 ?_
    exact key k hk e (by unfold ccT; rw [if_pos e])
  · have hb := hw.2.2.1 k hk e
    refine brF (by simp (disch := first | omega | (simp (disch := omega) only [nI_toInt, Int32.reduceToInt, i_sub, i_add, i_mul]; omega)) only [m9_n e, iNONE, i_lt, i_le, i_eq, i_in, nI_toInt, Int32.reduceToInt, i_sub, i_add, i_mul]; omega) ?_
    refine run_go 8 ?_
    refine r12_boxOf rfl rfl hr hT (by omega) ?_
    rw [m9_n e]
    exact key _ hb.1 hb.2.1 (by unfold ccT; rw [if_neg e])
theorem r12_below (hx : x = nI r) (hy : y = nI k) (hw : wfT so n T) (hn : n ≤ 6) (hr : r < 108) (hT : tabR μ r T) (hk : k < n) (hb : zB T k = 9) (h : Q (nI (zI T k)) 0 (0, 0) μ) : Call (d + 3) n12_below [sR 41 0, sI x, sI y] μ Q := by
  subst hx; subst hy
  have hq := hw.2.1 k hk hb
  have hz := wf_size hw hq.1
  refine call_go (cd := k12_below) 7 rfl rfl ?_
  refine r12_cellOf rfl rfl hw hn hr hT hk ?_
  have ec : ccT T k = zC T k := if_pos hb
  rw [ec]
  refine loopF (cd := k12_below) (d := d + 2) (Q := Q) (zI T k) (fun i j => [some (sR 41 0), some (sI (nI r)), some (sI (nI k)), some (sI (nI (zC T k))), some (sI j)]) (fun _ => μ) 10 ?_ (fun i hi kk => ?_)
  · refine run_go 7 ?_
    refine r12_thingAt rfl rfl rfl hr hq.1 (by omega) ?_
    rw [hT.2.1 _ _ hq.1 (by omega), if_pos hq.2.1, hq.2.2]
    refine brT rfl ?_
    refine run_go 2 ?_
    exact h
  · have hA := hw.1 (zC T k) i hq.1 (by omega)
    refine run_go 7 ?_
    refine r12_thingAt rfl rfl rfl hr hq.1 (by omega) ?_
    rw [hT.2.1 _ _ hq.1 (by omega), if_pos (by omega)]
    refine brF (fun z => ?_) ?_
    · have z := (nI_eq (by omega) (by omega)).mp z
      rw [z] at hA
      omega
    · refine run_go 2 ?_
      exact kk
theorem r12_isClear (hx : x = nI r) (hy : y = nI k) (hw : wfT so n T) (hn : n ≤ 6) (hr : r < 108) (hT : tabR μ r T) (hk : k < n) (h1 : clT' T k → Q 1 0 (0, 0) μ) (h2 : ¬ clT' T k → Q 0 0 (0, 0) μ) : Call (d + 3) n12_isClear [sR 41 0, sI x, sI y] μ Q := by
  subst hx; subst hy
  refine call_go (cd := k12_isClear) 60 rfl rfl ?_
  refine r12_cellOf rfl rfl hw hn hr hT hk ?_
  refine r12_boxOf rfl rfl hr hT (by omega) ?_
  by_cases e : zB T k = 9
  · have hq := hw.2.1 k hk e
    have hz := wf_size hw hq.1
    have ec : ccT T k = zC T k := if_pos e
    rw [ec]
    refine brF (by rw [e]; decide) ?_
    refine r12_sizeOf rfl rfl hr hq.1 ?_
    rw [hT.1 _ hq.1]
    refine r12_thingAt (i := zS T (zC T k) - 1) rfl rfl (nI_sub (a := zS T (zC T k)) (b := 1) (by omega)) hr hq.1 (by omega) ?_
    rw [hT.2.1 _ _ hq.1 (by omega), if_pos (by omega)]
    have hA := hw.1 (zC T k) (zS T (zC T k) - 1) hq.1 (by omega)
    have h4 := wf_clear hw hn hk e
    have e3 : tpT T (zC T k) = zA T (zC T k) (zS T (zC T k) - 1) := if_neg (by omega)
    rw [e3] at h4
    by_cases e2 : zA T (zC T k) (zS T (zC T k) - 1) = k
    · refine brnT (by rw [e2]) ?_
      exact ⟨Or.inr rfl, h1 ⟨e, h4.mp e2⟩⟩
    · refine brnF (fun z => e2 ((nI_eq (by omega) (by omega)).mp z)) ?_
      exact ⟨Or.inl rfl, h2 (fun z => e2 (h4.mpr z.2))⟩
  · have hb := hw.2.2.1 k hk e
    refine brT (by simp (disch := first | omega | (simp (disch := omega) only [nI_toInt, Int32.reduceToInt, i_sub, i_add, i_mul]; omega)) only [m9_n e, iNONE, i_lt, i_le, i_eq, i_in, nI_toInt, Int32.reduceToInt, i_sub, i_add, i_mul]; omega) ?_
    exact ⟨Or.inl rfl, h2 (fun z => e z.1)⟩
theorem r12_isLoose (hx : x = nI r) (hy : y = nI k) (hw : wfT so n T) (hn : n ≤ 6) (hr : r < 108) (hT : tabR μ r T) (hk : k < n) (h1 : frT T k → Q 1 0 (0, 0) μ) (h2 : ¬ frT T k → Q 0 0 (0, 0) μ) : Call (d + 4) n12_isLoose [sR 41 0, sI x, sI y] μ Q := by
  subst hx; subst hy
  unfold frT at h1 h2
  refine call_go (cd := k12_isLoose) 60 rfl rfl ?_
  refine r12_boxOf rfl rfl hr hT (by omega) ?_
  by_cases e : zB T k = 9
  · rw [if_pos e] at h1 h2
    refine brT (by rw [e]; decide) ?_
    refine r12_isClear rfl rfl hw hn hr hT hk (fun z => ⟨Or.inr rfl, h1 z⟩) (fun z => ⟨Or.inl rfl, h2 z⟩)
  · have hb := hw.2.2.1 k hk e
    rw [if_neg e] at h1 h2
    refine brF (by simp (disch := first | omega | (simp (disch := omega) only [nI_toInt, Int32.reduceToInt, i_sub, i_add, i_mul]; omega)) only [m9_n e, iNONE, i_lt, i_le, i_eq, i_in, nI_toInt, Int32.reduceToInt, i_sub, i_add, i_mul]; omega) ?_
    refine r12_boxOf rfl rfl hr hT (by omega) ?_
    refine r12_isClear rfl (m9_n e) hw hn hr hT hb.1 (fun z => ⟨Or.inr rfl, h1 z⟩) (fun z => ⟨Or.inl rfl, h2 z⟩)
theorem r12_insideOf (hx : x = nI r) (hy : y = nI b) (hw : wfT so n T) (hS : stkR μ n so wt) (hr : r < 108) (hT : tabR μ r T) (hb : b < n) (h : Q (m9 (zN T b)) 0 (0, 0) μ) : Call (d + 2) n12_insideOf [sR 41 0, sI x, sI y] μ Q := by
  subst hx; subst hy
  have hn := hS.2.1
  refine call_go (cd := k12_insideOf) 4 rfl rfl ?_
  refine loopF (cd := k12_insideOf) (d := d + 1) (Q := Q) n (fun i j => [some (sR 41 0), some (sI (nI r)), some (sI (nI b)), some (sI (if zN T b < i then nI (zN T b) else -1)), some (sI j)]) (fun _ => μ) 5 ?_ (fun i hi kk => ?_)
  · refine run_go 20 ?_
    refine brT (by simp (disch := first | omega | (simp (disch := omega) only [nI_toInt, Int32.reduceToInt, i_sub, i_add, i_mul]; omega)) only [hS.1, iNONE, i_lt, i_le, i_eq, i_in, nI_toInt, Int32.reduceToInt, i_sub, i_add, i_mul]; omega) ?_
    have e : m9 (zN T b) = if zN T b < n then nI (zN T b) else -1 := by
      unfold m9
      by_cases e : zN T b = 9
      · rw [if_pos e, if_neg (by omega)]
      · rw [if_neg e, if_pos (hw.2.2.2.1 b hb e).1]
    rw [e] at h
    exact h
  · have hbx := wf_bx hw hi
    refine run_go 4 ?_
    refine brF (by simp (disch := first | omega | (simp (disch := omega) only [nI_toInt, Int32.reduceToInt, i_sub, i_add, i_mul]; omega)) only [hS.1, iNONE, i_lt, i_le, i_eq, i_in, nI_toInt, Int32.reduceToInt, i_sub, i_add, i_mul]; omega) ?_
    refine run_go 6 ?_
    refine r12_boxOf rfl rfl hr hT (by omega) ?_
    by_cases e : zB T i = b
    · have h3 := (hw.2.2.1 i hi (by omega)).2.2.2.2
      rw [e] at h3
      refine brnT (by rw [e, m9_n (by omega)]) ?_
      refine run_go 5 ?_
      rw [h3, if_pos (by omega)] at kk
      exact kk
    · refine brnF (fun z => ?_) ?_
      · unfold m9 at z
        by_cases e2 : zB T i = 9
        · rw [if_pos e2] at z
          simp (disch := first | omega | (simp (disch := omega) only [nI_toInt, Int32.reduceToInt, i_sub, i_add, i_mul]; omega)) only [iNONE, i_lt, i_le, i_eq, i_in, nI_toInt, Int32.reduceToInt, i_sub, i_add, i_mul] at z
          omega
        · rw [if_neg e2] at z
          exact e ((nI_eq (by omega) (by omega)).mp z)
      · refine run_go 4 ?_
        have h3 : zN T b ≠ i := fun z => by
          have g := hw.2.2.2.1 b hb (by omega)
          rw [z] at g
          exact e g.2
        by_cases e2 : zN T b < i
        · rw [if_pos (by omega)] at kk
          rw [if_pos e2]
          exact kk
        · rw [if_neg (by omega)] at kk
          rw [if_neg e2]
          exact kk
end RT
