/-! ways: the reference -/
def f56 (a _ _ : Nat) : Prop := a ≠ 56 ∧ a ≠ 57
def nwI (μ : sM) (L R : Nat → Int32) (n m t : Nat) (X : Nat → Nat → Nat → Prop) : Prop := ∀ k, k < 144 → μ.1 57 0 k = nI (tB (∃ a b g, X a b g ∧ hitP L R n m t a b g k))
def raI (μ : sM) (L R : Nat → Int32) (n m t : Nat) : Prop := ∀ k, k < 144 → μ.1 56 0 k = nI (tB (rcP L R n m t k))
section OP
variable {d n k c s a b g r u o i m p q t A : Nat} {μ μ' μ'' M : sM} {Q : sQ} {L R f : Nat → Int32} {la mn : Nat → Nat} {it : Nat → Int32} {x y z v : Int32} {ξ : Nat → Nat → Int32} {X Y : Nat → Nat → Nat → Prop}
theorem tB_iff {P P' : Prop} (h : P ↔ P') : tB P = tB P' := by rw [propext h]
theorem nwI.eq (h : nwI μ L R n m t X) (e : ∀ a b g k, (X a b g ∧ hitP L R n m t a b g k) ↔ (Y a b g ∧ hitP L R n m t a b g k)) : nwI μ L R n m t Y := fun k hk => by
  rw [h k hk]
  congr 1
  exact tB_iff ⟨fun ⟨a, b, g, z⟩ => ⟨a, b, g, (e a b g k).mp z⟩, fun ⟨a, b, g, z⟩ => ⟨a, b, g, (e a b g k).mpr z⟩⟩
theorem nar1 : vp_nar .boolean 1 = 1 := by decide
theorem nar0 : vp_nar .boolean 0 = 0 := by decide
/-- a tick's new pairs, from one pair -/
theorem r12_g (hn : n ≤ 12) (hm : m ≤ 12) (ha : a < n) (hb : b < m) (hA : A + n + m ≤ 320) (hL : ∀ j, j < n → μ.1 53 0 (A + j) = L j) (hR : ∀ j, j < m → μ.1 53 0 (A + n + j) = R j) (hr : raI μ L R n m t) (hw : nwI μ L R n m t X) (hX : ∀ g, ¬ X a b g)
    (h : ∀ μ' r, frm (fun a _ _ => a ≠ 57) μ μ' → μ'.2 = μ.2 → nwI μ' L R n m t (fun a' b' g' => X a' b' g' ∨ a' = a ∧ b' = b) → Run k12_ways (Call d) Q 457 ([some (sR 41 0), some (sI (nI s)), some (sI (nI i)), some (sI (nI n)), some (sI (nI m)), some (sI 0), some (sI (nI A)), some (sI (nI t)), some (sI (nI a)), some (sI (nI b))] ++ r) [] μ') :
    Run k12_ways (Call d) Q 309 [some (sR 41 0), some (sI (nI s)), some (sI (nI i)), some (sI (nI n)), some (sI (nI m)), some (sI 0), some (sI (nI A)), some (sI (nI t)), some (sI (nI a)), some (sI (nI b)), some (sI 0)] [] μ := by
  refine loopC (cd := k12_ways) (d := d) (Q := Q) 4 (fun g ls μ' => ∃ r, ls = [some (sR 41 0), some (sI (nI s)), some (sI (nI i)), some (sI (nI n)), some (sI (nI m)), some (sI 0), some (sI (nI A)), some (sI (nI t)), some (sI (nI a)), some (sI (nI b)), some (sI (nI g))] ++ r ∧ frm (fun a _ _ => a ≠ 57) μ μ' ∧ μ'.2 = μ.2 ∧ nwI μ' L R n m t (fun a' b' g' => X a' b' g' ∨ a' = a ∧ b' = b ∧ g' < g)) 309 0 _ _ (Nat.zero_le _) ⟨[], rfl, frm.rf, rfl, hw.eq (fun a' b' g' k => ⟨fun z => ⟨Or.inl z.1, z.2⟩, fun z => ⟨by rcases z.1 with w | w; exact w; omega, z.2⟩⟩)⟩ ?_
  rintro g ls μ1 hg ⟨r, rfl, F1, E1, W1⟩ kk
  refine run_sub (ls := [some (sR 41 0), some (sI (nI s)), some (sI (nI i)), some (sI (nI n)), some (sI (nI m)), some (sI 0), some (sI (nI A)), some (sI (nI t)), some (sI (nI a)), some (sI (nI b)), some (sI (nI g))]) ?_ (subL.app _ r)
  have out : nwI μ1 L R n m t (fun a' b' g' => X a' b' g' ∨ a' = a ∧ b' = b) → Run k12_ways (Call d) Q 457 [some (sR 41 0), some (sI (nI s)), some (sI (nI i)), some (sI (nI n)), some (sI (nI m)), some (sI 0), some (sI (nI A)), some (sI (nI t)), some (sI (nI a)), some (sI (nI b)), some (sI (nI g))] [] μ1 := fun z => h μ1 [some (sI (nI g))] F1 E1 z
  refine run_go 3 ?_
  by_cases e : g = 4
  · subst e
    refine brT (by simp (disch := first | omega | (simp (disch := omega) only [nI_toInt, Int32.reduceToInt, i_sub, i_add, i_mul]; omega)) only [iNONE, i_lt, i_le, i_eq, i_in, nI_toInt, Int32.reduceToInt, i_sub, i_add, i_mul]; omega) ?_
    refine out (W1.eq (fun a' b' g' k => ⟨fun z => ⟨by rcases z.1 with w | w; exact Or.inl w; exact Or.inr ⟨w.1, w.2.1⟩, z.2⟩, fun z => ⟨by rcases z.1 with w | w; exact Or.inl w; exact Or.inr ⟨w.1, w.2, z.2.2.2.1⟩, z.2⟩⟩))
  · refine brF (by simp (disch := first | omega | (simp (disch := omega) only [nI_toInt, Int32.reduceToInt, i_sub, i_add, i_mul]; omega)) only [iNONE, i_lt, i_le, i_eq, i_in, nI_toInt, Int32.reduceToInt, i_sub, i_add, i_mul]; omega) ?_
    have hg4 : g < 4 := by omega
    have rk : μ1.1 56 0 (12 * a + b) = nI (tB (rcP L R n m t (12 * a + b))) := (F1 56 0 _ (by omega)).trans (hr _ (by omega))
    have rd : rcP L R n m t (12 * a + b) ↔ dT L R a b ≤ t := by
      unfold rcP
      rw [show (12 * a + b) / 12 = a by omega, show (12 * a + b) % 12 = b by omega]
      exact ⟨fun z => z.2.2, fun z => ⟨ha, hb, z⟩⟩
    have e12 : 12 * nI a + nI b = nI (12 * a + b) := by
      show nI 12 * nI a + nI b = _
      rw [nI_mul, nI_add]
    refine run_go 9 ?_
    (refine And.intro (by rw [e12]; exact vp_in_nI (by omega) (by decide)) ?_; rw [e12, nI_clamp (by omega)])
    rw [rk]
    by_cases e1 : dT L R a b ≤ t
    · refine brF (by rw [tB_t (rd.mpr e1)]; decide) ?_
      have gm : nI g - nI g / 2 * 2 = nI (g % 2) ∧ nI g / 2 = nI (g / 2) := by
        rcases (by omega : g = 0 ∨ g = 1 ∨ g = 2 ∨ g = 3) with rfl | rfl | rfl | rfl <;> decide
      have l1 : ∀ j, j < n → μ1.1 53 0 (A + j) = L j := fun j hj => (F1 53 0 _ (by omega)).trans (hL j hj)
      have r1 : ∀ j, j < m → μ1.1 53 0 (A + n + j) = R j := fun j hj => (F1 53 0 _ (by omega)).trans (hR j hj)
      have no : (∀ k, ¬ hitP L R n m t a b g k) → ∀ w1 w2, Run k12_ways (Call d) Q 451 [some (sR 41 0), some (sI (nI s)), some (sI (nI i)), some (sI (nI n)), some (sI (nI m)), some (sI 0), some (sI (nI A)), some (sI (nI t)), some (sI (nI a)), some (sI (nI b)), some (sI (nI g)), some (sI w1), some (sI w2)] [] μ1 := by
        intro z w1 w2
        refine run_go 2 ?_
        refine kk _ _ hg4 ⟨[some (sI w1), some (sI w2)], by rw [← nI_1 g]; rfl, F1, E1, W1.eq (fun a' b' g' k => ⟨fun y => ⟨by rcases y.1 with w | w; exact Or.inl w; exact Or.inr ⟨w.1, w.2.1, by omega⟩, y.2⟩, fun y => ⟨?_, y.2⟩⟩)⟩
        rcases y.1 with w | w
        · exact Or.inl w
        · by_cases q5 : g' = g
          · obtain ⟨rfl, rfl, _⟩ := w
            subst q5
            exact absurd y.2 (z k)
          · exact Or.inr ⟨w.1, w.2.1, by omega⟩
      refine run_go 12 ?_
      refine And.intro (by decide) ?_
      refine And.intro (by decide) ?_
      rw [gm.1, gm.2, nI_add]
      show Run k12_ways (Call d) Q 349 [some (sR 41 0), some (sI (nI s)), some (sI (nI i)), some (sI (nI n)), some (sI (nI m)), some (sI 0), some (sI (nI A)), some (sI (nI t)), some (sI (nI a)), some (sI (nI b)), some (sI (nI g)), some (sI (nI (a + g % 2))), some (sI (nI b + nI (g / 2)))] [] μ1
      rw [nI_add]
      refine run_go 3 ?_
      by_cases c1 : a + g % 2 < n
      · refine brF (by simp (disch := first | omega | (simp (disch := omega) only [nI_toInt, Int32.reduceToInt, i_sub, i_add, i_mul]; omega)) only [iNONE, i_lt, i_le, i_eq, i_in, nI_toInt, Int32.reduceToInt, i_sub, i_add, i_mul]; omega) ?_
        refine run_go 3 ?_
        by_cases c2 : b + g / 2 < m
        · refine brF (by simp (disch := first | omega | (simp (disch := omega) only [nI_toInt, Int32.reduceToInt, i_sub, i_add, i_mul]; omega)) only [iNONE, i_lt, i_le, i_eq, i_in, nI_toInt, Int32.reduceToInt, i_sub, i_add, i_mul]; omega) ?_
          have ic : nI A + nI (a + g % 2) = nI (A + (a + g % 2)) := nI_add _ _
          have id : nI A + nI n + nI (b + g / 2) = nI (A + n + (b + g / 2)) := by rw [nI_add, nI_add]
          have ib : nI A + nI n + nI b = nI (A + n + b) := by rw [nI_add, nI_add]
          have ia : nI A + nI a = nI (A + a) := nI_add _ _
          refine run_go 15 ?_
          (refine And.intro (by rw [ic]; exact vp_in_nI (by omega) (by decide)) ?_; rw [ic, nI_clamp (by omega)])
          (refine And.intro (by rw [id]; exact vp_in_nI (by omega) (by decide)) ?_; rw [id, nI_clamp (by omega)])
          rw [l1 _ c1, r1 _ c2]
          by_cases c3 : L (a + g % 2) = R (b + g / 2)
          · refine brT c3 ?_
            exact no (fun k z => z.2.2.2.2.2.2.2.1 c3) _ _
          · refine brF c3 ?_
            have yes : ¬ (L (a + g % 2) = R b ∧ R (b + g / 2) = L a) → Run k12_ways (Call d) Q 437 [some (sR 41 0), some (sI (nI s)), some (sI (nI i)), some (sI (nI n)), some (sI (nI m)), some (sI 0), some (sI (nI A)), some (sI (nI t)), some (sI (nI a)), some (sI (nI b)), some (sI (nI g)), some (sI (nI (a + g % 2))), some (sI (nI (b + g / 2)))] [] μ1 := by
              intro hs
              have e13 : 12 * nI (a + g % 2) + nI (b + g / 2) = nI (12 * (a + g % 2) + (b + g / 2)) := by
                show nI 12 * nI (a + g % 2) + nI (b + g / 2) = _
                rw [nI_mul, nI_add]
              refine run_go 11 ?_
              (refine And.intro (by rw [e13]; exact vp_in_nI (by omega) (by decide)) ?_; rw [e13, nI_clamp (by omega)])
              rw [nar1]
              refine kk _ _ hg4 ⟨[some (sI (nI (a + g % 2))), some (sI (nI (b + g / 2)))], by rw [← nI_1 g]; rfl, F1.mi (by omega), E1, fun k hk => ?_⟩
              by_cases q5 : k = 12 * (a + g % 2) + (b + g / 2)
              · have w1 : ∃ a' b' g', (X a' b' g' ∨ a' = a ∧ b' = b ∧ g' < g + 1) ∧ hitP L R n m t a' b' g' k := ⟨a, b, g, Or.inr ⟨rfl, rfl, by omega⟩, ha, hb, hg4, e1, c1, c2, q5, c3, hs⟩
                rw [tB_t w1, ← q5, mi_s]; rfl
              · rw [mi_k q5, W1 k hk]
                congr 1
                refine tB_iff ⟨fun ⟨a', b', g', y1, y2⟩ => ⟨a', b', g', by rcases y1 with w | w; exact Or.inl w; exact Or.inr ⟨w.1, w.2.1, by omega⟩, y2⟩, fun ⟨a', b', g', y1, y2⟩ => ⟨a', b', g', ?_, y2⟩⟩
                rcases y1 with w | w
                · exact Or.inl w
                · by_cases q6 : g' = g
                  · obtain ⟨rfl, rfl, _⟩ := w
                    subst q6
                    exact absurd y2.2.2.2.2.2.2.1 q5
                  · exact Or.inr ⟨w.1, w.2.1, by omega⟩
            refine run_go 15 ?_
            (refine And.intro (by rw [ic]; exact vp_in_nI (by omega) (by decide)) ?_; rw [ic, nI_clamp (by omega)])
            (refine And.intro (by rw [ib]; exact vp_in_nI (by omega) (by decide)) ?_; rw [ib, nI_clamp (by omega)])
            rw [l1 _ c1, r1 _ hb]
            by_cases c4 : L (a + g % 2) = R b
            · refine brnT c4 ?_
              refine run_go 15 ?_
              (refine And.intro (by rw [id]; exact vp_in_nI (by omega) (by decide)) ?_; rw [id, nI_clamp (by omega)])
              (refine And.intro (by rw [ia]; exact vp_in_nI (by omega) (by decide)) ?_; rw [ia, nI_clamp (by omega)])
              rw [r1 _ c2, l1 _ ha]
              by_cases c5 : R (b + g / 2) = L a
              · refine brT c5 ?_
                exact no (fun k z => z.2.2.2.2.2.2.2.2 ⟨c4, c5⟩) _ _
              · refine brF c5 ?_
                exact yes (fun z => c5 z.2)
            · refine brnF c4 ?_
              exact yes (fun z => c4 z.1)
        · refine brT (by simp (disch := first | omega | (simp (disch := omega) only [nI_toInt, Int32.reduceToInt, i_sub, i_add, i_mul]; omega)) only [iNONE, i_lt, i_le, i_eq, i_in, nI_toInt, Int32.reduceToInt, i_sub, i_add, i_mul]; omega) ?_
          exact no (fun k z => c2 z.2.2.2.2.2.1) _ _
      · refine brT (by simp (disch := first | omega | (simp (disch := omega) only [nI_toInt, Int32.reduceToInt, i_sub, i_add, i_mul]; omega)) only [iNONE, i_lt, i_le, i_eq, i_in, nI_toInt, Int32.reduceToInt, i_sub, i_add, i_mul]; omega) ?_
        exact no (fun k z => c1 z.2.2.2.2.1) _ _
    · refine brT (by rw [tB_f (fun z => e1 (rd.mp z))]; rfl) ?_
      refine out (W1.eq (fun a' b' g' k => ⟨fun z => ⟨by rcases z.1 with w | w; exact Or.inl w; exact Or.inr ⟨w.1, w.2.1⟩, z.2⟩, fun z => ⟨?_, z.2⟩⟩))
      rcases z.1 with w | w
      · exact Or.inl w
      · obtain ⟨rfl, rfl⟩ := w
        exact absurd z.2.2.2.2.1 e1
end OP
