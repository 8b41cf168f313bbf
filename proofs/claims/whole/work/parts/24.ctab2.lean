/-! neighbours; boxes that are shut; what is as told -/
def nb (a b : Nat) : Bool := Nat.beq (a + 4) b || Nat.beq (b + 4) a || (Nat.beq (a / 4) (b / 4) && (Nat.beq (a + 1) b || Nat.beq (b + 1) a))
theorem nb_key : ∀ a, a < 8 → ∀ b, b < 8 → nb a b = (decide ((if 0 ≤ nI a - nI b then nI a - nI b else 0 - (nI a - nI b)) = 4) || (decide ((if 0 ≤ nI a - nI b then nI a - nI b else 0 - (nI a - nI b)) = 1) && decide (nI a / 4 = nI b / 4))) := by decide +kernel
/-- a shut box -/
def shT (so : Nat → Nat) (n : Nat) (T : tT) (k : Nat) : Prop := so k = 2 ∧ ∃ a, a < n ∧ blT T a = k ∧ so a = 3
def nxT (so : Nat → Nat) (n : Nat) (T : tT) (c s : Nat) : Prop := ∃ o, o < n ∧ zB T o = 9 ∧ so o = s ∧ nb (zC T o) c = true
/-- rel 0: on, 1: in, 2: beside -/
def atT (so : Nat → Nat) (n : Nat) (T : tT) (k rel s : Nat) : Prop :=
  if rel = 1 then s = 2 ∧ zB T k ≠ 9 else if rel = 0 then blT T k ≠ 9 ∧ so (blT T k) = s else blT T k = 9 ∧ zB T k = 9 ∧ nxT so n T (zC T k) s
def cgT (so : Nat → Nat) (n : Nat) (T : tT) (k to : Nat) : Prop := frT T k ∧ (8 ≤ to → to - 8 < n ∧ so (to - 8) = 2 ∧ so k ≠ 2 ∧ clT' T (to - 8) ∧ zN T (to - 8) = 9)
/-- a stretch begins anew -/
theorem seg_tail {cd : sK} {d : Nat} {Q : sQ} {n pc : Nat} {ls : sO} {st : List sv} {μ : sM} (m : Nat) (h : Seg cd (Call d) Q m pc ls st μ) : Seg cd (Call d) Q n pc ls st μ := seg_stop n (run_go m h)
theorem loopC {cd : sK} {d : Nat} {Q : sQ} (N : Nat) (I : Nat → sO → sM → Prop) (pc i : Nat) (ls : sO) (μ : sM) (hi : i ≤ N) (hI : I i ls μ)
    (hs : ∀ i ls μ, i ≤ N → I i ls μ → (∀ ls' μ', i < N → I (i + 1) ls' μ' → Run cd (Call d) Q pc ls' [] μ') → Run cd (Call d) Q pc ls [] μ) : Run cd (Call d) Q pc ls [] μ := loopN N I pc hs i ls μ hi hI
section CT
variable {d t n k c s a b r : Nat} {μ : sM} {Q : sQ} {so wt : Nat → Nat} {T : tT} {x y z : Int32}
theorem c11_isWithin (hx : x = nI a) (hy : y = nI b) (ha : a < 100000) (hb : b < 100000) (h1 : a < b → Q 1 0 (0, 0) μ) (h2 : b ≤ a → Q 0 0 (0, 0) μ) : Call (d + 1) n11_isWithin [sI x, sI y] μ Q := by
  subst hx; subst hy
  refine call_go (cd := k11_isWithin) 20 rfl rfl ?_
  refine brF (by simp (disch := first | omega | (simp (disch := omega) only [nI_toInt, Int32.reduceToInt, i_sub, i_add, i_mul]; omega)) only [iNONE, i_lt, i_le, i_eq, i_in, nI_toInt, Int32.reduceToInt, i_sub, i_add, i_mul]; omega) ?_
  by_cases e : a < b
  · refine brF (by simp (disch := first | omega | (simp (disch := omega) only [nI_toInt, Int32.reduceToInt, i_sub, i_add, i_mul]; omega)) only [iNONE, i_lt, i_le, i_eq, i_in, nI_toInt, Int32.reduceToInt, i_sub, i_add, i_mul]; omega) ?_
    exact ⟨Or.inr rfl, h1 e⟩
  · refine brT (by simp (disch := first | omega | (simp (disch := omega) only [nI_toInt, Int32.reduceToInt, i_sub, i_add, i_mul]; omega)) only [iNONE, i_lt, i_le, i_eq, i_in, nI_toInt, Int32.reduceToInt, i_sub, i_add, i_mul]; omega) ?_
    exact ⟨Or.inl rfl, h2 (by omega)⟩
theorem c11_areNeighbours (hx : x = nI a) (hy : y = nI b) (ha : a < 8) (hb : b < 8) (h1 : nb a b = true → Q 1 0 (0, 0) μ) (h2 : nb a b = false → Q 0 0 (0, 0) μ) : Call (d + 1) n11_areNeighbours [sI x, sI y] μ Q := by
  subst hx; subst hy
  have key := nb_key a ha b hb
  refine call_go (cd := k11_areNeighbours) 30 rfl rfl ?_
  refine And.intro (fun c1 => ?_) (fun c1 => ?_)
  · exact ⟨Or.inr rfl, h1 (by rw [key, decide_eq_true c1]; rfl)⟩
  · rw [decide_eq_false c1] at key
    refine And.intro (fun c2 => ?_) (fun c2 => ?_)
    · rw [decide_eq_false c2] at key
      exact ⟨Or.inl rfl, h2 (by rw [key]; rfl)⟩
    · rw [decide_eq_true c2] at key
      refine And.intro (by decide) ?_
      refine And.intro (by decide) ?_
      refine And.intro (fun c3 => ?_) (fun c3 => ?_)
      · rw [decide_eq_false c3] at key
        exact ⟨Or.inl rfl, h2 (by rw [key]; rfl)⟩
      · rw [decide_eq_true c3] at key
        exact ⟨Or.inr rfl, h1 (by rw [key]; rfl)⟩
theorem c9_isShut (hx : x = nI k) (hw : wfT so n T) (hS : stkC μ n so wt) (hT : tabC μ t n T) (hk : k < n) (h1 : shT so n T k → Q 1 0 (0, 0) μ) (h2 : ¬ shT so n T k → Q 0 0 (0, 0) μ) : Call (d + 3) n9_isShut [sR 8 t, sI x] μ Q := by
  subst hx
  have hn := hS.2.1
  refine call_go (cd := k9_isShut) 5 rfl rfl ?_
  refine c8_isBox rfl hS (by omega) (fun e => ?_) (fun e => ?_)
  · refine brnF (by decide) ?_
    refine run_go 2 ?_
    refine loopC (cd := k9_isShut) (d := d + 2) (Q := Q) n (fun i ls μ' => ls = [some (sR 8 t), some (sI (nI k)), some (sI (nI i))] ∧ μ' = μ ∧ ∀ a, a < i → ¬ (blT T a = k ∧ so a = 3)) 15 0 [some (sR 8 t), some (sI (nI k)), some (sI 0)] μ (Nat.zero_le n) ⟨rfl, rfl, fun a h => absurd h (Nat.not_lt_zero a)⟩ ?_
    rintro i ls μ' hi ⟨rfl, rfl, hI⟩ kk
    refine run_go 5 ?_
    refine c8_size hS ?_
    by_cases e1 : i = n
    · refine brT (by simp (disch := first | omega | (simp (disch := omega) only [nI_toInt, Int32.reduceToInt, i_sub, i_add, i_mul]; omega)) only [iNONE, i_lt, i_le, i_eq, i_in, nI_toInt, Int32.reduceToInt, i_sub, i_add, i_mul]; omega) ?_
      refine run_go 2 ?_
      exact ⟨Or.inl rfl, h2 (fun ⟨_, a, h3, h4⟩ => hI a (by omega) h4)⟩
    · refine brF (by simp (disch := first | omega | (simp (disch := omega) only [nI_toInt, Int32.reduceToInt, i_sub, i_add, i_mul]; omega)) only [iNONE, i_lt, i_le, i_eq, i_in, nI_toInt, Int32.reduceToInt, i_sub, i_add, i_mul]; omega) ?_
      refine run_go 5 ?_
      refine c9_belowOf rfl (by omega) ?_
      rw [(hT.1 i (by omega)).2]
      have hb := wf_below hw (k := i) (by omega)
      by_cases e2 : blT T i = k
      · refine brnT (by rw [e2, o9_n (by omega)]) ?_
        refine run_go 6 ?_
        refine c8_sortOf rfl hS (by omega) ?_
        have hs := hS.2.2 i (by omega)
        by_cases e3 : so i = 3
        · refine brnT (by simp (disch := first | omega | (simp (disch := omega) only [nI_toInt, Int32.reduceToInt, i_sub, i_add, i_mul]; omega)) only [iNONE, i_lt, i_le, i_eq, i_in, nI_toInt, Int32.reduceToInt, i_sub, i_add, i_mul]; omega) ?_
          refine run_go 2 ?_
          exact ⟨Or.inr rfl, h1 ⟨e.2, i, by omega, e2, e3⟩⟩
        · refine brnF (by simp (disch := first | omega | (simp (disch := omega) only [nI_toInt, Int32.reduceToInt, i_sub, i_add, i_mul]; omega)) only [iNONE, i_lt, i_le, i_eq, i_in, nI_toInt, Int32.reduceToInt, i_sub, i_add, i_mul]; omega) ?_
          refine run_go 2 ?_
          refine kk _ _ (by omega) ⟨by rw [← nI_1], rfl, fun a h3 h4 => ?_⟩
          by_cases e4 : a = i
          · subst e4; exact e3 h4.2
          · exact hI a (by omega) h4
      · refine brnF (by rw [← o9_n (x := k) (by omega), o9_inj (by omega) (by omega)]; exact e2) ?_
        refine run_go 2 ?_
        refine kk _ _ (by omega) ⟨by rw [← nI_1], rfl, fun a h3 h4 => ?_⟩
        by_cases e4 : a = i
        · subst e4; exact e2 h4.1
        · exact hI a (by omega) h4
  · refine brnT rfl ?_
    refine run_go 2 ?_
    exact ⟨Or.inl rfl, h2 (fun ⟨h3, _⟩ => e ⟨hk, h3⟩)⟩
end CT
