/-! the reference: what may move, what is as told -/
theorem tB_eq {P P' : Prop} (h : P ↔ P') : tB P = tB P' := by rw [propext h]
theorem tB_one {P : Prop} (h : nI (tB P) = 0) : ¬ P := fun z => by rw [tB_t z] at h; cases h
theorem tB_one' {P : Prop} (h : ¬ nI (tB P) = 0) : P := by
  by_cases e : P
  · exact e
  · rw [tB_f e] at h; exact absurd rfl h
theorem nb_sym : ∀ a, a < 8 → ∀ b, b < 8 → nb a b = nb b a := by decide +kernel
theorem nb_key2 : ∀ a, a < 8 → ∀ b, b < 8 → nb a b = decide ((nI a - nI a / 4 * 4 - (nI b - nI b / 4 * 4)) * (nI a - nI a / 4 * 4 - (nI b - nI b / 4 * 4)) + (nI a / 4 - nI b / 4) * (nI a / 4 - nI b / 4) = 1) := by decide +kernel
def pdT (so : Nat → Nat) (T : tT) (c b d : Nat) : Prop := nb c d = true ∧ ∃ k, k < zS T d ∧ so (zA T d k) = b
section RT
variable {d t n k c s a b r u o i rel : Nat} {μ : sM} {Q : sQ} {so wt : Nat → Nat} {T : tT} {x y z w : Int32}
theorem r12_isNeighbour (hx : x = nI a) (hy : y = nI b) (ha : a < 8) (hb : b < 8) (h1 : nb a b = true → Q 1 0 (0, 0) μ) (h2 : nb a b = false → Q 0 0 (0, 0) μ) : Call (d + 1) n12_isNeighbour [sI x, sI y] μ Q := by
  subst hx; subst hy
  have key := nb_key2 a ha b hb
  refine call_go (cd := k12_isNeighbour) 60 rfl rfl ?_
  refine And.intro (by decide) ?_
  refine And.intro (by decide) ?_
  refine And.intro (by decide) ?_
  refine And.intro (by decide) ?_
  refine And.intro (fun c1 => ?_) (fun c1 => ?_)
  · exact ⟨Or.inl rfl, h2 (by rw [key]; exact decide_eq_false c1)⟩
  · exact ⟨Or.inr rfl, h1 (by rw [key]; exact decide_eq_true c1)⟩
theorem nx_pd (hw : wfT so n T) (hc : c < 8) : nxT so n T c b ↔ ∃ e, e < 8 ∧ pdT so T c b e := by
  constructor
  · rintro ⟨o, h1, h2, h3, h4⟩
    have hq := hw.2.1 o h1 h2
    refine ⟨zC T o, hq.1, by rw [nb_sym c hc _ hq.1]; exact h4, zI T o, hq.2.1, by rw [hq.2.2]; exact h3⟩
  · rintro ⟨e, h1, h2, k, h3, h4⟩
    have g := hw.1 e k h1 h3
    exact ⟨zA T e k, g.1, g.2.1, h4, by rw [g.2.2.1, nb_sym e h1 c hc]; exact h2⟩
theorem r12_mayInto (hx : x = nI r) (hy : y = nI k) (hz : z = nI b) (hw : wfT so n T) (hS : stkR μ n so wt) (hr : r < 108) (hT : tabR μ r T) (hk : k < n) (hb : b < n) (h1 : frT T k ∧ so k ≠ 2 ∧ clT' T b ∧ zN T b = 9 → Q 1 0 (0, 0) μ) (h2 : ¬ (frT T k ∧ so k ≠ 2 ∧ clT' T b ∧ zN T b = 9) → Q 0 0 (0, 0) μ) : Call (d + 5) n12_mayInto [sR 41 0, sI x, sI y, sI z] μ Q := by
  subst hx; subst hy; subst hz
  have hn := hS.2.1
  have hs := hS.2.2 k hk
  refine call_go (cd := k12_mayInto) 60 rfl rfl ?_
  refine r12_isLoose rfl rfl hw hn hr hT hk (fun e => ?_) (fun e => ?_)
  · refine brF (by decide) ?_
    refine And.intro (by simp (disch := first | omega | (simp (disch := omega) only [nI_toInt, Int32.reduceToInt, i_sub, i_add, i_mul]; omega)) only [iNONE, i_lt, i_le, i_eq, i_in, nI_toInt, Int32.reduceToInt, i_sub, i_add, i_mul]; omega) ?_
    rw [nI_clamp (by omega), hs.1]
    by_cases e1 : so k = 2
    · refine brT (by simp (disch := first | omega | (simp (disch := omega) only [nI_toInt, Int32.reduceToInt, i_sub, i_add, i_mul]; omega)) only [iNONE, i_lt, i_le, i_eq, i_in, nI_toInt, Int32.reduceToInt, i_sub, i_add, i_mul]; omega) ?_
      exact ⟨Or.inl rfl, h2 (fun z => z.2.1 e1)⟩
    · refine brF (by simp (disch := first | omega | (simp (disch := omega) only [nI_toInt, Int32.reduceToInt, i_sub, i_add, i_mul]; omega)) only [iNONE, i_lt, i_le, i_eq, i_in, nI_toInt, Int32.reduceToInt, i_sub, i_add, i_mul]; omega) ?_
      refine r12_isClear rfl rfl hw hn hr hT hb (fun e2 => ?_) (fun e2 => ?_)
      · refine brF (by decide) ?_
        refine r12_insideOf rfl rfl hw hS hr hT hb ?_
        by_cases e3 : zN T b = 9
        · refine brF (by rw [e3]; decide) ?_
          exact ⟨Or.inr rfl, h1 ⟨e, e1, e2, e3⟩⟩
        · have g := hw.2.2.2.1 b hb e3
          refine brT (by simp (disch := first | omega | (simp (disch := omega) only [nI_toInt, Int32.reduceToInt, i_sub, i_add, i_mul]; omega)) only [m9_n e3, iNONE, i_lt, i_le, i_eq, i_in, nI_toInt, Int32.reduceToInt, i_sub, i_add, i_mul]; omega) ?_
          exact ⟨Or.inl rfl, h2 (fun z => e3 z.2.2.2)⟩
      · refine brT rfl ?_
        exact ⟨Or.inl rfl, h2 (fun z => e2 z.2.2.1)⟩
  · refine brT rfl ?_
    exact ⟨Or.inl rfl, h2 (fun z => e z.1)⟩
theorem r12_canMove (hx : x = nI r) (hy : y = nI k) (hz : z = nI a) (hw : wfT so n T) (hS : stkR μ n so wt) (hr : r < 108) (hT : tabR μ r T) (hk : k < n) (ha : a < 8 ∨ 8 ≤ a ∧ a - 8 < n ∧ so (a - 8) = 2) (h1 : cgT so n T k a → Q 1 0 (0, 0) μ) (h2 : ¬ cgT so n T k a → Q 0 0 (0, 0) μ) : Call (d + 6) n12_canMove [sR 41 0, sI x, sI y, sI z] μ Q := by
  subst hx; subst hy; subst hz
  have hn := hS.2.1
  unfold cgT at h1 h2
  refine call_go (cd := k12_canMove) 60 rfl rfl ?_
  by_cases e : a < 8
  · refine brF (by simp (disch := first | omega | (simp (disch := omega) only [nI_toInt, Int32.reduceToInt, i_sub, i_add, i_mul]; omega)) only [iNONE, i_lt, i_le, i_eq, i_in, nI_toInt, Int32.reduceToInt, i_sub, i_add, i_mul]; omega) ?_
    refine r12_isLoose rfl rfl hw hn hr hT hk (fun z => ⟨Or.inr rfl, h1 ⟨z, fun q => absurd q (by omega)⟩⟩) (fun z => ⟨Or.inl rfl, h2 (fun q => z q.1)⟩)
  · refine brT (by simp (disch := first | omega | (simp (disch := omega) only [nI_toInt, Int32.reduceToInt, i_sub, i_add, i_mul]; omega)) only [iNONE, i_lt, i_le, i_eq, i_in, nI_toInt, Int32.reduceToInt, i_sub, i_add, i_mul]; omega) ?_
    have e2 : nI a - 8 = nI (a - 8) := nI_sub (a := a) (b := 8) (by omega)
    refine r12_mayInto rfl rfl e2 hw hS hr hT hk (by omega) (fun z => ⟨Or.inr rfl, h1 ⟨z.1, fun _ => ⟨by omega, by omega, z.2⟩⟩⟩) (fun z => ⟨Or.inl rfl, h2 (fun q => z ⟨q.1, (q.2 (by omega)).2.2⟩)⟩)
theorem r12_isAsTold (hx : x = nI r) (hy : y = nI k) (hz : z = nI rel) (hw' : w = nI b) (hw : wfT so n T) (hS : stkR μ n so wt) (hr : r < 108) (hT : tabR μ r T) (hk : k < n) (hl : rel < 3) (hb : b < 4) (h1 : atT so n T k rel b → Q 1 0 (0, 0) μ) (h2 : ¬ atT so n T k rel b → Q 0 0 (0, 0) μ) : Call (d + 4) n12_isAsTold [sR 41 0, sI x, sI y, sI z, sI w] μ Q := by
  subst hx; subst hy; subst hz; subst hw'
  have hn := hS.2.1
  unfold atT at h1 h2
  refine call_go (cd := k12_isAsTold) 3 rfl rfl ?_
  by_cases e1 : rel = 1
  · rw [if_pos e1] at h1 h2
    refine brnT (by simp (disch := first | omega | (simp (disch := omega) only [nI_toInt, Int32.reduceToInt, i_sub, i_add, i_mul]; omega)) only [iNONE, i_lt, i_le, i_eq, i_in, nI_toInt, Int32.reduceToInt, i_sub, i_add, i_mul]; omega) ?_
    refine run_go 40 ?_
    refine r12_boxOf rfl rfl hr hT (by omega) ?_
    by_cases e2 : zB T k = 9
    · refine brT (by rw [e2]; decide) ?_
      exact ⟨Or.inl rfl, h2 (fun z => z.2 e2)⟩
    · have g := hw.2.2.1 k hk e2
      refine brF (by simp (disch := first | omega | (simp (disch := omega) only [nI_toInt, Int32.reduceToInt, i_sub, i_add, i_mul]; omega)) only [m9_n e2, iNONE, i_lt, i_le, i_eq, i_in, nI_toInt, Int32.reduceToInt, i_sub, i_add, i_mul]; omega) ?_
      by_cases e3 : b = 2
      · refine brnT (by simp (disch := first | omega | (simp (disch := omega) only [nI_toInt, Int32.reduceToInt, i_sub, i_add, i_mul]; omega)) only [iNONE, i_lt, i_le, i_eq, i_in, nI_toInt, Int32.reduceToInt, i_sub, i_add, i_mul]; omega) ?_
        exact ⟨Or.inr rfl, h1 ⟨e3, e2⟩⟩
      · refine brnF (by simp (disch := first | omega | (simp (disch := omega) only [nI_toInt, Int32.reduceToInt, i_sub, i_add, i_mul]; omega)) only [iNONE, i_lt, i_le, i_eq, i_in, nI_toInt, Int32.reduceToInt, i_sub, i_add, i_mul]; omega) ?_
        exact ⟨Or.inl rfl, h2 (fun z => e3 z.1)⟩
  · rw [if_neg e1] at h1 h2
    refine brnF (by simp (disch := first | omega | (simp (disch := omega) only [nI_toInt, Int32.reduceToInt, i_sub, i_add, i_mul]; omega)) only [iNONE, i_lt, i_le, i_eq, i_in, nI_toInt, Int32.reduceToInt, i_sub, i_add, i_mul]; omega) ?_
    refine run_go 5 ?_
    refine r12_boxOf rfl rfl hr hT (by omega) ?_
    by_cases e2 : zB T k = 9
    · have hq := hw.2.1 k hk e2
      have hz := wf_size hw hq.1
      have ec : ccT T k = zC T k := if_pos e2
      refine brT (by rw [e2]; decide) ?_
      refine run_go 12 ?_
      refine r12_cellOf rfl rfl hw hn hr hT hk ?_
      rw [ec]
      refine r12_below rfl rfl hw hn hr hT hk e2 ?_
      by_cases e3 : rel = 0
      · rw [if_pos e3] at h1 h2
        refine brnT (by simp (disch := first | omega | (simp (disch := omega) only [nI_toInt, Int32.reduceToInt, i_sub, i_add, i_mul]; omega)) only [iNONE, i_lt, i_le, i_eq, i_in, nI_toInt, Int32.reduceToInt, i_sub, i_add, i_mul]; omega) ?_
        refine run_go 40 ?_
        by_cases e4 : zI T k = 0
        · refine brT (by simp (disch := first | omega | (simp (disch := omega) only [nI_toInt, Int32.reduceToInt, i_sub, i_add, i_mul]; omega)) only [iNONE, i_lt, i_le, i_eq, i_in, nI_toInt, Int32.reduceToInt, i_sub, i_add, i_mul]; omega) ?_
          refine ⟨Or.inl rfl, h2 (fun z => z.1 ?_)⟩
          unfold blT
          rw [if_neg (fun q => by omega)]
        · have g := hw.1 (zC T k) (zI T k - 1) hq.1 (by omega)
          have e5 : blT T k = zA T (zC T k) (zI T k - 1) := if_pos ⟨e2, by omega⟩
          refine brF (by simp (disch := first | omega | (simp (disch := omega) only [nI_toInt, Int32.reduceToInt, i_sub, i_add, i_mul]; omega)) only [iNONE, i_lt, i_le, i_eq, i_in, nI_toInt, Int32.reduceToInt, i_sub, i_add, i_mul]; omega) ?_
          refine r12_thingAt (i := zI T k - 1) rfl rfl (nI_sub (a := zI T k) (b := 1) (by omega)) hr hq.1 (by omega) ?_
          rw [hT.2.1 _ _ hq.1 (by omega), if_pos (by omega), ← e5]
          rw [← e5] at g
          have hs := hS.2.2 (blT T k) g.1
          refine And.intro (by simp (disch := first | omega | (simp (disch := omega) only [nI_toInt, Int32.reduceToInt, i_sub, i_add, i_mul]; omega)) only [iNONE, i_lt, i_le, i_eq, i_in, nI_toInt, Int32.reduceToInt, i_sub, i_add, i_mul]; omega) ?_
          rw [nI_clamp (by omega), hs.1]
          by_cases e6 : so (blT T k) = b
          · refine brnT (by simp (disch := first | omega | (simp (disch := omega) only [nI_toInt, Int32.reduceToInt, i_sub, i_add, i_mul]; omega)) only [iNONE, i_lt, i_le, i_eq, i_in, nI_toInt, Int32.reduceToInt, i_sub, i_add, i_mul]; omega) ?_
            exact ⟨Or.inr rfl, h1 ⟨by omega, e6⟩⟩
          · refine brnF (by simp (disch := first | omega | (simp (disch := omega) only [nI_toInt, Int32.reduceToInt, i_sub, i_add, i_mul]; omega)) only [iNONE, i_lt, i_le, i_eq, i_in, nI_toInt, Int32.reduceToInt, i_sub, i_add, i_mul]; omega) ?_
            exact ⟨Or.inl rfl, h2 (fun z => e6 z.2)⟩
      · rw [if_neg e3] at h1 h2
        refine brnF (by simp (disch := first | omega | (simp (disch := omega) only [nI_toInt, Int32.reduceToInt, i_sub, i_add, i_mul]; omega)) only [iNONE, i_lt, i_le, i_eq, i_in, nI_toInt, Int32.reduceToInt, i_sub, i_add, i_mul]; omega) ?_
        refine run_go 4 ?_
        by_cases e4 : zI T k = 0
        · have ebl : blT T k = 9 := if_neg (fun q => by omega)
          have key : Run k12_isAsTold (Call (d + 3)) Q 95 [some (sR 41 0), some (sI (nI r)), some (sI (nI k)), some (sI (nI rel)), some (sI (nI b)), some (sI (nI (zC T k))), some (sI (nI (zI T k))), some (sI (nI (tB (∃ e, e < 0 ∧ pdT so T (zC T k) b e)))), some (sI 0)] [] μ := by
            refine loopF (cd := k12_isAsTold) (d := d + 3) (Q := Q) 8 (fun i j => [some (sR 41 0), some (sI (nI r)), some (sI (nI k)), some (sI (nI rel)), some (sI (nI b)), some (sI (nI (zC T k))), some (sI (nI (zI T k))), some (sI (nI (tB (∃ e, e < i ∧ pdT so T (zC T k) b e)))), some (sI j)]) (fun _ => μ) 95 ?_ (fun i hi kk => ?_)
            · refine run_go 20 ?_
              refine brT (by decide) ?_
              by_cases e5 : ∃ e, e < 8 ∧ pdT so T (zC T k) b e
              · rw [tB_t e5]
                exact ⟨Or.inr rfl, h1 ⟨ebl, e2, (nx_pd hw hq.1).mpr e5⟩⟩
              · rw [tB_f e5]
                exact ⟨Or.inl rfl, h2 (fun z => e5 ((nx_pd hw hq.1).mp z.2.2))⟩
            · have hzi := wf_size hw hi
              refine run_go 3 ?_
              refine brF (by simp (disch := first | omega | (simp (disch := omega) only [nI_toInt, Int32.reduceToInt, i_sub, i_add, i_mul]; omega)) only [iNONE, i_lt, i_le, i_eq, i_in, nI_toInt, Int32.reduceToInt, i_sub, i_add, i_mul]; omega) ?_
              refine run_go 2 ?_
              refine brnT (by simp (disch := first | omega | (simp (disch := omega) only [nI_toInt, Int32.reduceToInt, i_sub, i_add, i_mul]; omega)) only [iNONE, i_lt, i_le, i_eq, i_in, nI_toInt, Int32.reduceToInt, i_sub, i_add, i_mul]; omega) ?_
              refine run_go 2 ?_
              have key2 : Run k12_isAsTold (Call (d + 3)) Q 110 [some (sR 41 0), some (sI (nI r)), some (sI (nI k)), some (sI (nI rel)), some (sI (nI b)), some (sI (nI (zC T k))), some (sI (nI (zI T k))), some (sI (nI (tB ((∃ e, e < i ∧ pdT so T (zC T k) b e) ∨ nb (zC T k) i = true ∧ ∃ q, q < 0 ∧ so (zA T i q) = b)))), some (sI (nI i)), some (sI 0)] [] μ := by
                refine loopF (cd := k12_isAsTold) (d := d + 3) (Q := Q) (zS T i) (fun m j => [some (sR 41 0), some (sI (nI r)), some (sI (nI k)), some (sI (nI rel)), some (sI (nI b)), some (sI (nI (zC T k))), some (sI (nI (zI T k))), some (sI (nI (tB ((∃ e, e < i ∧ pdT so T (zC T k) b e) ∨ nb (zC T k) i = true ∧ ∃ q, q < m ∧ so (zA T i q) = b)))), some (sI (nI i)), some (sI j)]) (fun _ => μ) 110 ?_ (fun m hm kk2 => ?_)
                · refine run_go 6 ?_
                  refine r12_sizeOf rfl rfl hr hi ?_
                  rw [hT.1 i hi]
                  refine brT (by simp (disch := first | omega | (simp (disch := omega) only [nI_toInt, Int32.reduceToInt, i_sub, i_add, i_mul]; omega)) only [iNONE, i_lt, i_le, i_eq, i_in, nI_toInt, Int32.reduceToInt, i_sub, i_add, i_mul]; omega) ?_
                  refine run_go 2 ?_
                  have e7 : tB (∃ e, e < i + 1 ∧ pdT so T (zC T k) b e) = tB ((∃ e, e < i ∧ pdT so T (zC T k) b e) ∨ nb (zC T k) i = true ∧ ∃ q, q < zS T i ∧ so (zA T i q) = b) := by
                    refine tB_eq ⟨fun ⟨e, q1, q2⟩ => ?_, fun q => ?_⟩
                    · by_cases e8 : e = i
                      · subst e8; exact Or.inr q2
                      · exact Or.inl ⟨e, by omega, q2⟩
                    · rcases q with ⟨e, q1, q2⟩ | q
                      · exact ⟨e, by omega, q2⟩
                      · exact ⟨i, by omega, q⟩
                  rw [e7] at kk
                  exact run_sub kk (subL.app _ [some (sI (nI (zS T i)))])
                · have hA := hw.1 i m hi hm
                  have hs := hS.2.2 _ hA.1
                  refine run_go 6 ?_
                  refine r12_sizeOf rfl rfl hr hi ?_
                  rw [hT.1 i hi]
                  refine brF (by simp (disch := first | omega | (simp (disch := omega) only [nI_toInt, Int32.reduceToInt, i_sub, i_add, i_mul]; omega)) only [iNONE, i_lt, i_le, i_eq, i_in, nI_toInt, Int32.reduceToInt, i_sub, i_add, i_mul]; omega) ?_
                  refine run_go 2 ?_
                  by_cases hX : (∃ e, e < i ∧ pdT so T (zC T k) b e) ∨ nb (zC T k) i = true ∧ ∃ q, q < m ∧ so (zA T i q) = b
                  · refine brnF (by rw [tB_t hX]; decide) ?_
                    refine run_go 5 ?_
                    rw [tB_t (by
                      rcases hX with q | ⟨q, q1, q2, q3⟩
                      · exact Or.inl q
                      · exact Or.inr ⟨q, q1, by omega, q3⟩)] at kk2
                    exact kk2
                  · refine brnT (by rw [tB_f hX]; rfl) ?_
                    refine run_go 4 ?_
                    refine r12_isNeighbour rfl rfl hq.1 hi (fun e7 => ?_) (fun e7 => ?_)
                    · refine brF (by decide) ?_
                      refine run_go 10 ?_
                      refine r12_thingAt rfl rfl rfl hr hi (by omega) ?_
                      rw [hT.2.1 i m hi (by omega), if_pos hm]
                      refine And.intro (by simp (disch := first | omega | (simp (disch := omega) only [nI_toInt, Int32.reduceToInt, i_sub, i_add, i_mul]; omega)) only [iNONE, i_lt, i_le, i_eq, i_in, nI_toInt, Int32.reduceToInt, i_sub, i_add, i_mul]; omega) ?_
                      rw [nI_clamp (by omega), hs.1]
                      by_cases e8 : so (zA T i m) = b
                      · refine brnT (by rw [e8]) ?_
                        refine run_go 5 ?_
                        rw [tB_t (Or.inr ⟨e7, m, by omega, e8⟩)] at kk2
                        exact kk2
                      · refine brnF (by simp (disch := first | omega | (simp (disch := omega) only [nI_toInt, Int32.reduceToInt, i_sub, i_add, i_mul]; omega)) only [iNONE, i_lt, i_le, i_eq, i_in, nI_toInt, Int32.reduceToInt, i_sub, i_add, i_mul]; omega) ?_
                        refine run_go 4 ?_
                        rw [tB_f (fun q => by
                          rcases q with q | ⟨q, q1, q2, q3⟩
                          · exact hX (Or.inl q)
                          · by_cases e9 : q1 = m
                            · subst e9; exact e8 q3
                            · exact hX (Or.inr ⟨q, q1, by omega, q3⟩))] at kk2
                        exact kk2
                    · refine brT rfl ?_
                      refine run_go 4 ?_
                      rw [tB_f (fun q => by
                        rcases q with q | ⟨q, q1⟩
                        · exact hX (Or.inl q)
                        · rw [e7] at q; cases q)] at kk2
                      exact kk2
              have e6 : tB ((∃ e, e < i ∧ pdT so T (zC T k) b e) ∨ nb (zC T k) i = true ∧ ∃ q, q < 0 ∧ so (zA T i q) = b) = tB (∃ e, e < i ∧ pdT so T (zC T k) b e) := by
                refine tB_eq ⟨fun q => ?_, Or.inl⟩
                rcases q with q | ⟨_, q1, q2, _⟩
                · exact q
                · omega
              rw [e6] at key2
              exact key2
          rw [tB_f (fun ⟨e, q, _⟩ => absurd q (Nat.not_lt_zero e))] at key
          exact key
        · refine run_go 20 ?_
          refine brF (by decide) ?_
          refine brnF (by simp (disch := first | omega | (simp (disch := omega) only [nI_toInt, Int32.reduceToInt, i_sub, i_add, i_mul]; omega)) only [iNONE, i_lt, i_le, i_eq, i_in, nI_toInt, Int32.reduceToInt, i_sub, i_add, i_mul]; omega) ?_
          refine ⟨Or.inl rfl, h2 (fun z => ?_)⟩
          have e5 : blT T k = zA T (zC T k) (zI T k - 1) := if_pos ⟨e2, by omega⟩
          have g := hw.1 (zC T k) (zI T k - 1) hq.1 (by omega)
          omega
    · have g := hw.2.2.1 k hk e2
      refine brF (by simp (disch := first | omega | (simp (disch := omega) only [nI_toInt, Int32.reduceToInt, i_sub, i_add, i_mul]; omega)) only [m9_n e2, iNONE, i_lt, i_le, i_eq, i_in, nI_toInt, Int32.reduceToInt, i_sub, i_add, i_mul]; omega) ?_
      refine run_go 20 ?_
      refine ⟨Or.inl rfl, h2 (fun z => ?_)⟩
      by_cases e3 : rel = 0
      · rw [if_pos e3] at z
        exact z.1 (if_neg (fun q => e2 q.1))
      · rw [if_neg e3] at z
        exact e2 z.2.1
end RT
