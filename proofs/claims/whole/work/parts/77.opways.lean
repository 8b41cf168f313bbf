/-! ways -/
def alR (f : Nat → Int32) (n K : Nat) : Prop := ∀ k, k < K → (∃ c, c < 8 ∧ f k = nI c) ∧ (0 < k → k ≠ n → f k = f (k - 1) ∨ ∃ a b, a < 8 ∧ b < 8 ∧ f k = nI a ∧ f (k - 1) = nI b ∧ nb a b = true)
section OP
variable {d n k c s a b g r u o i m p q t A : Nat} {μ μ' μ'' M : sM} {Q : sQ} {L R f : Nat → Int32} {la mn : Nat → Nat} {it : Nat → Int32} {x y z w v : Int32} {ξ : Nat → Nat → Int32}
theorem al_rw (hn : 0 < n) : alR f n (n + m) ↔ rwP f n ∧ rwP (fun q => f (n + q)) m := by
  constructor
  · intro h
    refine ⟨fun p hp => ⟨(h p (by omega)).1, fun z => (h p (by omega)).2 z (by omega)⟩, fun p hp => ⟨(h (n + p) (by omega)).1, fun z => ?_⟩⟩
    have := (h (n + p) (by omega)).2 (by omega) (by omega)
    rw [show n + p - 1 = n + (p - 1) by omega] at this
    exact this
  · rintro ⟨h1, h2⟩ k hk
    by_cases e : k < n
    · exact ⟨(h1 k e).1, fun z _ => (h1 k e).2 z⟩
    · have q := h2 (k - n) (by omega)
      dsimp only at q
      rw [show n + (k - n) = k by omega] at q
      refine ⟨q.1, fun z z2 => ?_⟩
      have := q.2 (by omega)
      rw [show n + (k - n - 1) = k - 1 by omega] at this
      exact this
theorem op_ways (hI : INV ξ μ) (h : ∀ v μ', opQ ξ (d + 20) n12_ways [sR 41 0, sI x, sI y, sI z, sI w] v μ' → Q v 0 (0, 0) μ') : Call (d + 20) n11_ways [sR 0 0, sI x, sI y, sI z, sI w] μ Q := by
  obtain ⟨la, mn, it, w1, w2, w3⟩ := hI.sg
  have rz := i_rng z
  have rw' := i_rng w
  by_cases hb : (∃ s, s < 8 ∧ x = nI s) ∧ (1 ≤ z.toInt ∧ z.toInt ≤ 12) ∧ (1 ≤ w.toInt ∧ w.toInt ≤ 12)
  · obtain ⟨⟨s, hs, rfl⟩, hz, hw⟩ := hb
    obtain ⟨n, hn, rfl⟩ := nI_ofB (x := z) (b := 13) (by omega) (by omega)
    obtain ⟨m, hm, rfl⟩ := nI_ofB (x := w) (b := 13) (by omega) (by omega)
    simp (disch := omega) only [nI_toInt] at hz hw
    have pre : ∀ (M : sM) (Q : sQ), Run k12_ways (Call (d + 19)) Q 40 [some (sR 41 0), some (sI (nI s)), some (sI y), some (sI (nI n)), some (sI (nI m))] [] (m_i M 41 0 0 0) → Call (d + 20) n12_ways [sR 41 0, sI (nI s), sI y, sI (nI n), sI (nI m)] M Q := by
      intro M Q hr
      refine call_go (cd := k12_ways) 6 rfl rfl ?_
      refine r12_sheetY hs ?_
      refine brF (by decide) ?_
      refine run_go 6 ?_
      refine r12_in (fun _ => ?_) (fun e => absurd (by rw [j_of, show (1 : Int64).toInt = 1 from by decide, show (12 : Int64).toInt = 12 from by decide, nI_toInt (by omega)]; omega) e)
      refine brF (by decide) ?_
      refine run_go 6 ?_
      refine r12_in (fun _ => ?_) (fun e => absurd (by rw [j_of, show (1 : Int64).toInt = 1 from by decide, show (12 : Int64).toInt = 12 from by decide, nI_toInt (by omega)]; omega) e)
      refine brnF (by decide) ?_
      exact hr
    have nm : nI n + nI m = nI (n + m) := nI_add n m
    refine call_go (cd := k11_ways) 80 rfl rfl ?_
    refine c11_isWithin (b := 8) rfl rfl (by omega) (by decide) (fun _ => ?_) (fun z => by omega)
    refine brF (by decide) ?_
    refine brF (by simp (disch := first | omega | (simp (disch := omega) only [nI_toInt, Int32.reduceToInt, i_sub, i_add, i_mul]; omega)) only [iNONE, i_lt, i_le, i_eq, i_in, nI_toInt, Int32.reduceToInt, i_sub, i_add, i_mul]; omega) ?_
    refine brF (by simp (disch := first | omega | (simp (disch := omega) only [nI_toInt, Int32.reduceToInt, i_sub, i_add, i_mul]; omega)) only [iNONE, i_lt, i_le, i_eq, i_in, nI_toInt, Int32.reduceToInt, i_sub, i_add, i_mul]; omega) ?_
    refine brF (by simp (disch := first | omega | (simp (disch := omega) only [nI_toInt, Int32.reduceToInt, i_sub, i_add, i_mul]; omega)) only [iNONE, i_lt, i_le, i_eq, i_in, nI_toInt, Int32.reduceToInt, i_sub, i_add, i_mul]; omega) ?_
    refine brT (by simp (disch := first | omega | (simp (disch := omega) only [nI_toInt, Int32.reduceToInt, i_sub, i_add, i_mul]; omega)) only [iNONE, i_lt, i_le, i_eq, i_in, nI_toInt, Int32.reduceToInt, i_sub, i_add, i_mul]; omega) ?_
    refine c6_isMissing rfl hs w1 w2 (fun e2 => ?_) (fun e2 => ?_)
    · refine brF (by decide) ?_
      refine c11_found ?_
      refine h _ _ (fun Q hq => pre _ _ ?_)
      refine run_go 20 ?_
      refine r12_lookItems rfl hs w1 (w3.fr ((frm.rf.mi (by unfold fS; omega)).mi (by unfold fS; omega))) (fun _ => ?_) (fun q => absurd e2 q) (fun q => absurd e2 q)
      refine brF (by decide) ?_
      exact hq _ hI.find2
    · refine brT rfl ?_
      refine c6_spans rfl hs w1 w2 e2 (fun e3 => ?_) (fun e3 => ?_)
      · refine brnF (by decide) ?_
        rw [nm, nI_toInt (by omega)] at e3
        have hmn := (w1 s hs).2
        obtain ⟨i, hi, rfl⟩ := nI_ofB (x := y) (b := 41) (by omega) (by omega)
        simp (disch := omega) only [nI_toInt] at e3
        have hsp : i + (n + m) ≤ mn s := by omega
        refine c2_lay hs w1 w2 e2 ⟨by omega, by omega⟩ ⟨by omega, by omega⟩ hsp (fun μ1 F1 E1 N1 M1 L1 R1 => ?_)
        have hI1 : INV ξ μ1 := hI.fr (F1.sub (fun a i k z => by unfold fA fT fO fS fR fN fP fX fF fL at z; unfold f35; omega)) E1
        generalize hf : (fun q => it (40 * s + i + q)) = f
        have hf' : ∀ q, it (40 * s + i + q) = f q := fun q => by rw [← hf]
        have al := al_rw (f := f) (n := n) (m := m) (by omega)
        -- the reference up to its rows
        have ref : ∀ (M : sM) (Q : sQ), frm fS μ M → (¬ alR f n (n + m) → Q (-1000001) 0 (0, 0) (m_i M 41 0 0 0)) → (alR f n (n + m) → ∀ r, Run k12_ways (Call (d + 19)) Q 169 ([some (sR 41 0), some (sI (nI s)), some (sI (nI i)), some (sI (nI n)), some (sI (nI m)), some (sI 0), some (sI (nI (40 * s + i)))] ++ r) [] (m_i M 41 0 0 0)) → Call (d + 20) n12_ways [sR 41 0, sI (nI s), sI (nI i), sI (nI n), sI (nI m)] M Q := by
          intro M Q FM qb qg
          refine pre M Q ?_
          have R3 : shR (m_i M 41 0 0 0) la mn it := w3.fr (FM.mi (by unfold fS; omega))
          have it3 : ∀ j, j < n + m → (m_i M 41 0 0 0).1 53 0 (40 * s + i + j) = f j := fun j hj => (R3.2 _ (by omega)).trans (hf' j)
          generalize m_i M 41 0 0 0 = M3 at R3 it3 qb qg ⊢
          refine run_go 10 ?_
          refine r12_lookItems rfl hs w1 R3 (fun q => absurd q e2) (fun _ q => absurd (by rw [nm, nI_toInt (by omega), nI_toInt (by omega)]; omega) q) (fun _ _ => ?_)
          refine brT (by decide) ?_
          refine run_go 8 ?_
          refine run_sub (ls := [some (sR 41 0), some (sI (nI s)), some (sI (nI i)), some (sI (nI n)), some (sI (nI m)), some (sI 0), some (sI (40 * nI s + nI i)), some (sI 0)]) ?_ subL.rf
          rw [nI_04]
          refine loopC (cd := k12_ways) (d := d + 19) (Q := Q) (n + m) (fun k ls μ' => ls = [some (sR 41 0), some (sI (nI s)), some (sI (nI i)), some (sI (nI n)), some (sI (nI m)), some (sI 0), some (sI (nI (40 * s + i))), some (sI (nI k))] ∧ μ' = M3 ∧ alR f n k) 71 0 _ _ (Nat.zero_le _) ⟨rfl, rfl, fun k hk => absurd hk (Nat.not_lt_zero k)⟩ ?_
          rintro k ls μ4 hk ⟨rfl, rfl, I4⟩ kk
          refine run_go 5 ?_
          by_cases e : k = n + m
          · subst e
            refine brT (by rw [nm]; exact (by simp (disch := first | omega | (simp (disch := omega) only [nI_toInt, Int32.reduceToInt, i_sub, i_add, i_mul]; omega)) only [iNONE, i_lt, i_le, i_eq, i_in, nI_toInt, Int32.reduceToInt, i_sub, i_add, i_mul]; omega)) ?_
            exact qg I4 [some (sI (nI (n + m)))]
          · refine brF (by rw [nm]; exact (by simp (disch := first | omega | (simp (disch := omega) only [nI_toInt, Int32.reduceToInt, i_sub, i_add, i_mul]; omega)) only [iNONE, i_lt, i_le, i_eq, i_in, nI_toInt, Int32.reduceToInt, i_sub, i_add, i_mul]; omega)) ?_
            have hk' : k < n + m := by omega
            have ik : nI (40 * s + i) + nI k = nI (40 * s + i + k) := nI_add _ _
            refine run_go 8 ?_
            (refine And.intro (by rw [ik]; exact vp_in_nI (by omega) (by decide)) ?_; rw [ik, nI_clamp (by omega)])
            rw [it3 k hk']
            refine r12_isCell (fun c hc e1 => ?_) (fun e1 => ?_)
            · refine brF (by decide) ?_
              have nx : (0 < k → k ≠ n → f k = f (k - 1) ∨ ∃ a b, a < 8 ∧ b < 8 ∧ f k = nI a ∧ f (k - 1) = nI b ∧ nb a b = true) → Run k12_ways (Call (d + 19)) Q 163 [some (sR 41 0), some (sI (nI s)), some (sI (nI i)), some (sI (nI n)), some (sI (nI m)), some (sI 0), some (sI (nI (40 * s + i))), some (sI (nI k))] [] μ4 := by
                intro z
                refine run_go 2 ?_
                refine kk _ _ hk' ⟨by rw [← nI_1 k], rfl, fun q hq => ?_⟩
                by_cases q2 : q = k
                · subst q2; exact ⟨⟨c, hc, e1⟩, z⟩
                · exact I4 q (by omega)
              refine run_go 2 ?_
              by_cases c1 : k = 0
              · refine brT (by simp (disch := first | omega | (simp (disch := omega) only [nI_toInt, Int32.reduceToInt, i_sub, i_add, i_mul]; omega)) only [iNONE, i_lt, i_le, i_eq, i_in, nI_toInt, Int32.reduceToInt, i_sub, i_add, i_mul]; omega) ?_
                exact nx (fun z => by omega)
              · refine brF (by simp (disch := first | omega | (simp (disch := omega) only [nI_toInt, Int32.reduceToInt, i_sub, i_add, i_mul]; omega)) only [iNONE, i_lt, i_le, i_eq, i_in, nI_toInt, Int32.reduceToInt, i_sub, i_add, i_mul]; omega) ?_
                refine run_go 3 ?_
                by_cases c2 : k = n
                · refine brT (by rw [c2]) ?_
                  exact nx (fun _ z => absurd c2 z)
                · refine brF (fun z => c2 ((nI_eq (by omega) (by omega)).mp z)) ?_
                  have ij : nI (40 * s + i) + nI k - 1 = nI (40 * s + i + (k - 1)) := by
                    rw [nI_add, show (1 : Int32) = nI 1 from rfl, nI_sub (by omega)]
                    congr 1
                    omega
                  obtain ⟨c', hc', e1'⟩ := (I4 (k - 1) (by omega)).1
                  refine run_go 15 ?_
                  (refine And.intro (by rw [ik]; exact vp_in_nI (by omega) (by decide)) ?_; rw [ik, nI_clamp (by omega)])
                  refine And.intro (by rw [ij]; exact vp_in_nI (by omega) (by decide)) ?_
                  rw [ij, nI_clamp (by omega), it3 k hk', it3 (k - 1) (by omega)]
                  by_cases c3 : f k = f (k - 1)
                  · refine brT c3 ?_
                    exact nx (fun _ _ => Or.inl c3)
                  · refine brF c3 ?_
                    refine run_go 16 ?_
                    (refine And.intro (by rw [ik]; exact vp_in_nI (by omega) (by decide)) ?_; rw [ik, nI_clamp (by omega)])
                    refine And.intro (by rw [ij]; exact vp_in_nI (by omega) (by decide)) ?_
                    rw [ij, nI_clamp (by omega), it3 k hk', it3 (k - 1) (by omega)]
                    refine r12_isNeighbour e1 e1' hc hc' (fun e4 => ?_) (fun e4 => ?_)
                    · refine brnF (by decide) ?_
                      exact nx (fun _ _ => Or.inr ⟨c, c', hc, hc', e1, e1', e4⟩)
                    · refine brnT rfl ?_
                      refine run_go 5 ?_
                      refine qb (fun z => ?_)
                      rcases (z k hk').2 (by omega) c2 with w | ⟨a, b, ha, hb, w1, w2, w3⟩
                      · exact c3 w
                      · have x1 : a = c := (nI_eq (by omega) (by omega)).mp (w1.symm.trans e1)
                        have x2 : b = c' := (nI_eq (by omega) (by omega)).mp (w2.symm.trans e1')
                        rw [x1, x2, e4] at w3
                        cases w3
            · refine brT rfl ?_
              refine run_go 5 ?_
              refine qb (fun z => ?_)
              obtain ⟨c, hc, w⟩ := (z k hk').1
              rw [w, nI_toInt (by omega)] at e1
              omega
        have FS : frm fS μ μ1 := F1.sub (fun a i k z => by unfold fS at z; unfold f35; omega)
        refine c2_isOfRows (L := f) (R := fun q => f (n + q)) (by omega) (by omega) N1 M1 (fun j hj => (L1 j hj).trans (hf' j)) (fun j hj => (R1 j hj).trans (hf' (n + j))) (fun e4 => ?_) (fun e4 => ?_)
        · refine brF (by decide) ?_
          refine c2_fewestTicks (L := f) (R := fun q => f (n + q)) ⟨by omega, by omega⟩ ⟨by omega, by omega⟩ N1 M1 (fun j hj => (L1 j hj).trans (hf' j)) (fun j hj => (R1 j hj).trans (hf' (n + j))) (fun μ2 F2 E2 => ?_)
          refine c11_foundNothing ?_
          refine h _ _ (fun Q hq => ref _ Q ?_ (fun q => absurd (al.mpr e4) q) (fun _ r => ?_))
          · intro a i k z
            unfold fS at z
            rw [mi_n (by omega), F2 a i k (by omega)]
            exact F1 a i k (by unfold f35; omega)
          · refine run_sub (ls := [some (sR 41 0), some (sI (nI s)), some (sI (nI i)), some (sI (nI n)), some (sI (nI m)), some (sI 0), some (sI (nI (40 * s + i)))]) ?_ (subL.app _ r)
            have done : ∀ μ3, frm f56 (m_i (m_i (m_i μ2 0 0 11 0) 41 0 0 0) 41 0 1 0) μ3 → μ3.2 = μ.2 → INV ξ μ3 := by
              intro μ3 F3 E3
              refine hI.sh (fun a i k z => ?_) E3 (hI.sg.fr (fun a i k z => ?_)) ?_
              · have z1 : ¬ fS a i k := z.2.1
                have z2 : ¬ fF a i k := z.2.2
                have z3 : a ≠ 56 ∧ a ≠ 57 ∧ ¬ (35 ≤ a ∧ a ≤ 38) ∧ ¬ (a = 41 ∧ k = 0) := by
                  have := z.1
                  unfold fT fO fS fR fN fP fX fF fL at this
                  omega
                unfold fF at z2
                rw [F3 a i k ⟨z3.1, z3.2.1⟩, mi_n (by omega), mi_n (by omega), mi_n (by omega), F2 a i k (by omega)]
                exact F1 a i k z3.2.2.1
              · unfold fS at z
                rw [F3 a i k (by unfold f56; omega), mi_n (by omega), mi_n (by omega), mi_n (by omega), F2 a i k (by omega)]
                exact F1 a i k (by unfold f35; omega)
              · unfold stG
                rw [F3 0 0 11 (by unfold f56; omega), F3 41 0 1 (by unfold f56; omega)]
                rfl
            have items : ∀ j, j < n + m → (m_i (m_i (m_i μ2 0 0 11 0) 41 0 0 0) 41 0 1 0).1 53 0 (40 * s + i + j) = f j := fun j hj => by
              rw [mi_t (by decide), mi_t (by decide), mi_t (by decide), F2 53 0 _ (by decide), F1 53 0 _ (by unfold f35; omega), w3.2 _ (by omega)]
              exact hf' j
            have E2' : (m_i (m_i (m_i μ2 0 0 11 0) 41 0 0 0) 41 0 1 0).2 = μ.2 := E2.trans E1
            refine run_go 5 ?_
            show Run k12_ways (Call (d + 19)) Q 177 [some (sR 41 0), some (sI (nI s)), some (sI (nI i)), some (sI (nI n)), some (sI (nI m)), some (sI 0), some (sI (nI (40 * s + i))), some (sI 0)] [] (m_i (m_i (m_i μ2 0 0 11 0) 41 0 0 0) 41 0 1 0)
            generalize m_i (m_i (m_i μ2 0 0 11 0) 41 0 0 0) 41 0 1 0 = M3 at done items E2' ⊢
            refine loopC (cd := k12_ways) (d := d + 19) (Q := Q) 144 (fun j ls μ' => ls = [some (sR 41 0), some (sI (nI s)), some (sI (nI i)), some (sI (nI n)), some (sI (nI m)), some (sI 0), some (sI (nI (40 * s + i))), some (sI (nI j))] ∧ frm f56 M3 μ' ∧ μ'.2 = μ.2 ∧ ∀ k, k < j → μ'.1 56 0 k = 0) 177 0 _ _ (Nat.zero_le _) ⟨rfl, frm.rf, E2', fun k hk => absurd hk (Nat.not_lt_zero k)⟩ ?_
            rintro j ls μ3 hj ⟨rfl, F3, E3, Z3⟩ kk
            refine run_go 3 ?_
            by_cases e : j = 144
            · subst e
              refine brT (by simp (disch := first | omega | (simp (disch := omega) only [nI_toInt, Int32.reduceToInt, i_sub, i_add, i_mul]; omega)) only [iNONE, i_lt, i_le, i_eq, i_in, nI_toInt, Int32.reduceToInt, i_sub, i_add, i_mul]; omega) ?_
              have i0 : μ3.1 53 0 (40 * s + i) = f 0 := (F3 53 0 _ (by unfold f56; omega)).trans (items 0 (by omega))
              have i1 : μ3.1 53 0 (40 * s + i + n) = f n := (F3 53 0 _ (by unfold f56; omega)).trans (items n (by omega))
              have fin : ∀ v : Nat, v < 2 → (v = 1 ↔ ¬ f 0 = f n) → Run k12_ways (Call (d + 19)) Q 228 [some (sR 41 0), some (sI (nI s)), some (sI (nI i)), some (sI (nI n)), some (sI (nI m)), some (sI 0), some (sI (nI (40 * s + i))), some (sI (nI 144))] [sI (nI v), sI 0, sR 56 0] μ3 := by
                intro v hv hv1
                refine run_go 3 ?_
                refine And.intro (by rw [i_in]; decide) ?_
                have nv : vp_nar .boolean (nI v) = nI v := by
                  rcases (by omega : v = 0 ∨ v = 1) with rfl | rfl <;> decide
                rw [nv]
                refine r12_ticks (L := f) (R := fun q => f (n + q)) ⟨by omega, by omega⟩ ⟨by omega, by omega⟩ (by omega) (fun j hj => ?_) (fun j hj => ?_) (fun k hk => ?_) (fun μ4 F4 E4 => ?_)
                · exact (mi_t (by decide)).trans ((F3 53 0 _ (by unfold f56; omega)).trans (items j (by omega)))
                · rw [show 40 * s + i + n + j = 40 * s + i + (n + j) by omega]
                  exact (mi_t (by decide)).trans ((F3 53 0 _ (by unfold f56; omega)).trans (items (n + j) (by omega)))
                · have r0 : rcP f (fun q => f (n + q)) n m 0 k ↔ k = 0 ∧ ¬ f 0 = f n := by
                    unfold rcP
                    constructor
                    · rintro ⟨z1, z2, z3⟩
                      have dz : dT f (fun q => f (n + q)) (k / 12) (k % 12) = 0 := by omega
                      by_cases q0 : k = 0
                      · refine ⟨q0, fun z => ?_⟩
                        subst q0
                        have dz : (if f 0 = f n then 1000 else 0) = 0 := dz
                        rw [if_pos z] at dz
                        omega
                      · exfalso
                        by_cases q1 : k / 12 = 0
                        · rw [q1, show k % 12 = (k % 12 - 1) + 1 by omega, dT_0s] at dz
                          split at dz <;> omega
                        · rw [show k / 12 = (k / 12 - 1) + 1 by omega] at dz
                          by_cases q2 : k % 12 = 0
                          · rw [q2, dT_s0] at dz
                            split at dz <;> omega
                          · rw [show k % 12 = (k % 12 - 1) + 1 by omega, dT_ss] at dz
                            split at dz
                            · omega
                            · split at dz <;> omega
                    · rintro ⟨rfl, z⟩
                      refine ⟨by omega, by omega, ?_⟩
                      show (if f 0 = f n then 1000 else 0) ≤ 0
                      rw [if_neg z]
                      exact Nat.le_refl 0
                  rw [tB_iff r0]
                  by_cases q0 : k = 0
                  · subst q0
                    rw [show (0 : Int32).toNatClampNeg = 0 from rfl, mi_s]
                    by_cases z : f 0 = f n
                    · rw [tB_f (fun w => w.2 z), show v = 0 by have := hv1.mp; by_cases q : v = 1; exact absurd z (this q); omega]
                    · rw [tB_t ⟨rfl, z⟩, hv1.mpr z]
                  · rw [show (0 : Int32).toNatClampNeg = 0 from rfl, mi_k q0, Z3 k hk, tB_f (fun w => q0 w.1)]
                    rfl
                · exact hq _ (done _ ((F3.mi (by unfold f56; omega)).tr F4) (E4.trans E3))
              refine run_go 14 ?_
              refine And.intro (by exact vp_in_nI (by omega) (by decide)) ?_
              refine And.intro (by rw [nI_add]; exact vp_in_nI (by omega) (by decide)) ?_
              rw [nI_add, nI_clamp (by omega), nI_clamp (by omega), i0, i1]
              by_cases z : f 0 = f n
              · refine brT z ?_
                refine run_go 1 ?_
                exact fin 0 (by decide) ⟨fun w => by omega, fun w => absurd z w⟩
              · refine brF z ?_
                refine run_go 2 ?_
                exact fin 1 (by decide) ⟨fun _ => z, fun _ => rfl⟩
            · refine brF (by simp (disch := first | omega | (simp (disch := omega) only [nI_toInt, Int32.reduceToInt, i_sub, i_add, i_mul]; omega)) only [iNONE, i_lt, i_le, i_eq, i_in, nI_toInt, Int32.reduceToInt, i_sub, i_add, i_mul]; omega) ?_
              refine run_go 7 ?_
              refine And.intro (by simp (disch := first | omega | (simp (disch := omega) only [nI_toInt, Int32.reduceToInt, i_sub, i_add, i_mul]; omega)) only [iNONE, i_lt, i_le, i_eq, i_in, nI_toInt, Int32.reduceToInt, i_sub, i_add, i_mul]; omega) ?_
              rw [nI_clamp (by omega), nar0]
              refine kk _ _ (by omega) ⟨by rw [← nI_1 j], F3.mi (by unfold f56; omega), E3, fun k hk => ?_⟩
              by_cases q5 : k = j
              · subst q5; exact mi_s
              · rw [mi_k q5]; exact Z3 k (by omega)
        · refine brT rfl ?_
          refine h _ _ (fun Q hq => ref _ Q FS (fun _ => hq _ hI1.th) (fun z => absurd (al.mp z) e4))
      · refine brnT rfl ?_
        rw [nm, nI_toInt (by omega)] at e3
        refine c11_found ?_
        refine h _ _ (fun Q hq => pre _ _ ?_)
        refine run_go 20 ?_
        refine r12_lookItems rfl hs w1 (w3.fr ((frm.rf.mi (by unfold fS; omega)).mi (by unfold fS; omega))) (fun q => absurd q e2) (fun _ _ => ?_) (fun _ q => absurd q (by rw [nm, nI_toInt (by omega)]; omega))
        refine brF (by decide) ?_
        exact hq _ hI.find2
  · have hB : Q (-1000001) 0 (0, 0) μ := by
      refine h _ _ (fun Q hq => ?_)
      have hq' := hq _ hI.th
      refine call_go (cd := k12_ways) 60 rfl rfl ?_
      refine r12_isSheet (fun s hs e1 => ?_) (fun q => ?_)
      · refine brF (by decide) ?_
        refine r12_in (fun q => ?_) (fun q => ?_)
        · refine brF (by decide) ?_
          refine r12_in (fun q2 => absurd ⟨⟨s, hs, e1⟩, by rw [j_of, show (1 : Int64).toInt = 1 from by decide, show (12 : Int64).toInt = 12 from by decide] at q; exact q, by rw [j_of, show (1 : Int64).toInt = 1 from by decide, show (12 : Int64).toInt = 12 from by decide] at q2; exact q2⟩ hb) (fun q => ?_)
          refine brnT rfl ?_
          exact hq'
        · refine brT rfl ?_
          exact hq'
      · refine brT rfl ?_
        exact hq'
    refine call_go (cd := k11_ways) 60 rfl rfl ?_
    refine c11_within (b := 8) rfl (by decide) (fun s hs e1 => ?_) (fun _ => ?_)
    · refine brF (by decide) ?_
      have e3 : ¬ ((1 ≤ z.toInt ∧ z.toInt ≤ 12) ∧ 1 ≤ w.toInt ∧ w.toInt ≤ 12) := fun e => hb ⟨⟨s, hs, e1⟩, e⟩
      by_cases c1 : z.toInt < 1
      · refine brT (by simp (disch := first | omega | (simp (disch := omega) only [nI_toInt, Int32.reduceToInt, i_sub, i_add, i_mul]; omega)) only [iNONE, i_lt, i_le, i_eq, i_in, nI_toInt, Int32.reduceToInt, i_sub, i_add, i_mul]; omega) ?_
        exact hB
      · refine brF (by simp (disch := first | omega | (simp (disch := omega) only [nI_toInt, Int32.reduceToInt, i_sub, i_add, i_mul]; omega)) only [iNONE, i_lt, i_le, i_eq, i_in, nI_toInt, Int32.reduceToInt, i_sub, i_add, i_mul]; omega) ?_
        by_cases c2 : 12 < z.toInt
        · refine brT (by simp (disch := first | omega | (simp (disch := omega) only [nI_toInt, Int32.reduceToInt, i_sub, i_add, i_mul]; omega)) only [iNONE, i_lt, i_le, i_eq, i_in, nI_toInt, Int32.reduceToInt, i_sub, i_add, i_mul]; omega) ?_
          exact hB
        · refine brF (by simp (disch := first | omega | (simp (disch := omega) only [nI_toInt, Int32.reduceToInt, i_sub, i_add, i_mul]; omega)) only [iNONE, i_lt, i_le, i_eq, i_in, nI_toInt, Int32.reduceToInt, i_sub, i_add, i_mul]; omega) ?_
          by_cases c3 : w.toInt < 1
          · refine brT (by simp (disch := first | omega | (simp (disch := omega) only [nI_toInt, Int32.reduceToInt, i_sub, i_add, i_mul]; omega)) only [iNONE, i_lt, i_le, i_eq, i_in, nI_toInt, Int32.reduceToInt, i_sub, i_add, i_mul]; omega) ?_
            exact hB
          · refine brF (by simp (disch := first | omega | (simp (disch := omega) only [nI_toInt, Int32.reduceToInt, i_sub, i_add, i_mul]; omega)) only [iNONE, i_lt, i_le, i_eq, i_in, nI_toInt, Int32.reduceToInt, i_sub, i_add, i_mul]; omega) ?_
            refine brF (by simp (disch := first | omega | (simp (disch := omega) only [nI_toInt, Int32.reduceToInt, i_sub, i_add, i_mul]; omega)) only [iNONE, i_lt, i_le, i_eq, i_in, nI_toInt, Int32.reduceToInt, i_sub, i_add, i_mul]; omega) ?_
            exact hB
    · refine brT rfl ?_
      exact hB
end OP
