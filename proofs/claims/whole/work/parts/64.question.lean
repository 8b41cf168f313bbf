/-! question: on which kept table the fitting orders give most outcomes -/
def nwO (so : Nat → Nat) (n : Nat) (tb : Nat → tT) (l : lT) (T : tT) (o : Nat) : Prop := fbT so n tb l o = 99 ∧ ∀ o', o' < o → fbT so n tb l o' = 99 → ¬ ocT so n T o' = ocT so n T o
noncomputable def sqN (so : Nat → Nat) (n : Nat) (tb : Nat → tT) (l : lT) (T : tT) (m : Nat) : Nat := sumN (fun o => tB (nwO so n tb l T o)) m
noncomputable def snN (so : Nat → Nat) (n : Nat) (tb : Nat → tT) (l : lT) (T : tT) (m : Nat) : Nat := sumN (fun o => tB (nwO so n tb l T o ∧ ¬ (odT so n T o).1 = 99)) m
noncomputable def sfN (so : Nat → Nat) (n : Nat) (tb : Nat → tT) (l : lT) (T : tT) (m : Nat) : Nat := tB (∃ o, o < m ∧ fbT so n tb l o = 99 ∧ (odT so n T o).1 = 99)
section OP
variable {d n k c s a b r u o i rel κ lr t p j S m m' : Nat} {μ μ' μ'' : sM} {Q : sQ} {so wt : Nat → Nat} {T T' : tT} {tb : Nat → tT} {l : lT} {x y z w v : Int32} {q : Int64} {ξ : Nat → Nat → Int32}
theorem sq_gap (h : m ≤ m') (hg : ∀ o, m ≤ o → o < m' → ¬ fbT so n tb l o = 99) : sqN so n tb l T m' = sqN so n tb l T m := by
  induction m' with
  | zero => rw [show m = 0 by omega]
  | succ p ih =>
    by_cases e : m = p + 1
    · rw [e]
    · show sqN so n tb l T p + tB (nwO so n tb l T p) = _
      rw [tB_f (fun z => hg p (by omega) (by omega) z.1), Nat.add_zero]
      exact ih (by omega) (fun o h1 h2 => hg o h1 (by omega))
theorem sq_le : sqN so n tb l T m ≤ m := by
  have := sumN_le (f := fun o => tB (nwO so n tb l T o)) (b := 1) (n := m) (fun _ _ => tB_le)
  unfold sqN
  omega
theorem sn_le : snN so n tb l T m ≤ m := by
  have := sumN_le (f := fun o => tB (nwO so n tb l T o ∧ ¬ (odT so n T o).1 = 99)) (b := 1) (n := m) (fun _ _ => tB_le)
  unfold snN
  omega
theorem oc_f (hw : wfT so n T) (hn : n ≤ 6) : ocT so n T o = -1 ↔ (odT so n T o).1 = 99 := by
  unfold ocT
  by_cases e : (odT so n T o).1 = 99
  · rw [if_pos e]; exact ⟨fun _ => e, fun _ => rfl⟩
  · rw [if_neg e]
    refine ⟨fun z => ?_, fun z => absurd z e⟩
    have hp := pc_62 (od_wf (so := so) (o := o) hw hn).1 hn
    have h1 : (-1 : Int64).toBitVec.toNat = (Int64.ofNat (pcN (odT so n T o).2 n)).toBitVec.toNat := by rw [z]
    have h2 : (Int64.ofNat (pcN (odT so n T o).2 n)).toBitVec.toNat = pcN (odT so n T o).2 n % 2 ^ 64 := rfl
    have h3 : (-1 : Int64).toBitVec.toNat = 2 ^ 64 - 1 := by decide
    rw [h2, h3] at h1
    omega
theorem oc_e (hw : wfT so n T) (hn : n ≤ 6) {o' : Nat} (e : ¬ (odT so n T o).1 = 99) (e' : ¬ (odT so n T o').1 = 99) : ocT so n T o' = ocT so n T o ↔ eqT n (odT so n T o').2 (odT so n T o).2 := by
  have w1 := (od_wf (so := so) (o := o) hw hn).1
  have w2 := (od_wf (so := so) (o := o') hw hn).1
  unfold ocT
  rw [if_neg e, if_neg e', l64_inj (pc_62 w2 hn) (pc_62 w1 hn), pic_iff w1 w2 hn]
  exact ⟨fun z => z.sy w1, fun z => z.sy w2⟩
/-- as many as unlike tables, and one more if an order fails -/
theorem sq_sn (hw : wfT so n T) (hn : n ≤ 6) : ∀ m, sqN so n tb l T m = snN so n tb l T m + sfN so n tb l T m
  | 0 => by
    show 0 = 0 + tB _
    rw [tB_f (fun ⟨o, z, _⟩ => absurd z (Nat.not_lt_zero o))]
  | m + 1 => by
    have ih := sq_sn hw hn m
    show sqN so n tb l T m + tB (nwO so n tb l T m) = snN so n tb l T m + tB (nwO so n tb l T m ∧ ¬ (odT so n T m).1 = 99) + sfN so n tb l T (m + 1)
    rw [ih]
    unfold sfN
    by_cases e : (odT so n T m).1 = 99
    · rw [tB_f (P := nwO so n tb l T m ∧ ¬ (odT so n T m).1 = 99) (fun z => z.2 e)]
      by_cases e2 : ∃ o, o < m ∧ fbT so n tb l o = 99 ∧ (odT so n T o).1 = 99
      · obtain ⟨o, h1, h2, h3⟩ := e2
        have a1 : tB (∃ o, o < m ∧ fbT so n tb l o = 99 ∧ (odT so n T o).1 = 99) = 1 := tB_t ⟨o, h1, h2, h3⟩
        have a2 : tB (∃ o, o < m + 1 ∧ fbT so n tb l o = 99 ∧ (odT so n T o).1 = 99) = 1 := tB_t ⟨o, by omega, h2, h3⟩
        have a3 : tB (nwO so n tb l T m) = 0 := tB_f (fun z => z.2 o h1 h2 (by rw [(oc_f hw hn).mpr h3, (oc_f hw hn).mpr e]))
        rw [a1, a2, a3]
      · rw [tB_f e2]
        by_cases e3 : fbT so n tb l m = 99
        · rw [tB_t (P := nwO so n tb l T m) ⟨e3, fun o' h1 h2 h3 => e2 ⟨o', h1, h2, (oc_f hw hn).mp (h3.trans ((oc_f hw hn).mpr e))⟩⟩, tB_t ⟨m, by omega, e3, e⟩]
        · rw [tB_f (P := nwO so n tb l T m) (fun z => e3 z.1), tB_f (fun ⟨o, h1, h2, h3⟩ => by
            by_cases q : o = m
            · subst q; exact e3 h2
            · exact e2 ⟨o, by omega, h2, h3⟩)]
    · have e4 : (∃ o, o < m + 1 ∧ fbT so n tb l o = 99 ∧ (odT so n T o).1 = 99) ↔ ∃ o, o < m ∧ fbT so n tb l o = 99 ∧ (odT so n T o).1 = 99 := by
        constructor
        · rintro ⟨o, h1, h2, h3⟩
          by_cases q : o = m
          · subst q; exact absurd h3 e
          · exact ⟨o, by omega, h2, h3⟩
        · rintro ⟨o, h1, h2, h3⟩
          exact ⟨o, by omega, h2, h3⟩
      rw [show tB (∃ o, o < m + 1 ∧ fbT so n tb l o = 99 ∧ (odT so n T o).1 = 99) = tB (∃ o, o < m ∧ fbT so n tb l o = 99 ∧ (odT so n T o).1 = 99) from by rw [propext e4], show tB (nwO so n tb l T m ∧ ¬ (odT so n T m).1 = 99) = tB (nwO so n tb l T m) from by rw [show (nwO so n tb l T m ∧ ¬ (odT so n T m).1 = 99) = nwO so n tb l T m from propext ⟨fun z => z.1, fun z => ⟨z, e⟩⟩]]
      omega
theorem c10_isNew (hx : x = nI m) (hm : m ≤ 96) (h1 : (∃ j, j < m ∧ μ.2 27 j = q) → Q 0 0 (0, 0) μ) (h2 : (¬ ∃ j, j < m ∧ μ.2 27 j = q) → Q 1 0 (0, 0) μ) : Call (d + 1) n10_isNew [sR 20 0, sL q, sI x] μ Q := by
  subst hx
  refine call_go (cd := k10_isNew) 2 rfl rfl ?_
  refine loopS (cd := k10_isNew) (d := d) (Q := Q) m (fun j => μ.2 27 j = q) (fun v => [some (sR 20 0), some (sL q), none, some (sI (nI m)), some (sI v)]) μ 3 (fun hp => ?_) (fun i hi hp kk => ?_)
  · refine run_go 20 ?_
    refine brT (by simp (disch := first | omega | (simp (disch := omega) only [nI_toInt, Int32.reduceToInt, i_sub, i_add, i_mul]; omega)) only [iNONE, i_lt, i_le, i_eq, i_in, nI_toInt, Int32.reduceToInt, i_sub, i_add, i_mul]; omega) ?_
    exact ⟨Or.inr rfl, h2 (fun ⟨j, hj, e⟩ => hp j hj e)⟩
  · refine run_go 3 ?_
    refine brF (by simp (disch := first | omega | (simp (disch := omega) only [nI_toInt, Int32.reduceToInt, i_sub, i_add, i_mul]; omega)) only [iNONE, i_lt, i_le, i_eq, i_in, nI_toInt, Int32.reduceToInt, i_sub, i_add, i_mul]; omega) ?_
    refine run_go 3 ?_
    refine brF (by simp (disch := first | omega | (simp (disch := omega) only [nI_toInt, Int32.reduceToInt, i_sub, i_add, i_mul]; omega)) only [iNONE, i_lt, i_le, i_eq, i_in, nI_toInt, Int32.reduceToInt, i_sub, i_add, i_mul]; omega) ?_
    refine run_go 7 ?_
    refine And.intro (by simp (disch := first | omega | (simp (disch := omega) only [nI_toInt, Int32.reduceToInt, i_sub, i_add, i_mul]; omega)) only [iNONE, i_lt, i_le, i_eq, i_in, nI_toInt, Int32.reduceToInt, i_sub, i_add, i_mul]; omega) ?_
    rw [nI_clamp (by omega)]
    by_cases e : μ.2 27 i = q
    · refine brnT (cmp_eq.mpr e) ?_
      refine run_go 10 ?_
      exact ⟨Or.inl rfl, h1 ⟨i, hi, e⟩⟩
    · refine brnF (fun z => e (cmp_eq.mp z)) ?_
      refine run_go 2 ?_
      exact kk e
/-- all but the outcomes that are being counted -/
def agU (μ μ' : sM) : Prop := μ'.1 = μ.1 ∧ ∀ a k, a ≠ 27 → μ'.2 a k = μ.2 a k
theorem agU.rf : agU μ μ := ⟨rfl, fun _ _ _ => rfl⟩
theorem agU.tr (h : agU μ μ') (h' : agU μ' μ'') : agU μ μ'' := ⟨h'.1.trans h.1, fun a k z => (h'.2 a k z).trans (h.2 a k z)⟩
theorem agU_tb (h1 : tbG μ n so wt κ tb) (g : agU μ μ') : tbG μ' n so wt κ tb := h1.fr (fun a i k _ => by rw [g.1])
theorem lrG.U (h1 : lrG μ n so κ tb lr) (g : agU μ μ') : lrG μ' n so κ tb lr := by
  refine ⟨h1.1, by rw [g.1]; exact h1.2.1, fun k hk => ?_⟩
  have := h1.2.2 k hk
  refine ⟨by rw [g.2 18 k (by decide)]; exact this.1, fun o ho => by rw [g.2 19 _ (by decide)]; exact this.2 o ho⟩
theorem INV.U (h : INV ξ μ) (g : agU μ μ') : INV ξ μ' := by
  obtain ⟨n, so, wt, κ, tb, lr, h1, h2, h3⟩ := h
  exact ⟨n, so, wt, κ, tb, lr, agU_tb h1 g, h2.U g, h3.fr (fun a i k _ => by rw [g.1])⟩
theorem c10_unlikeOn (hx : x = nI i) (h1 : tbG μ n so wt κ tb) (h2 : lrG μ n so κ tb κ) (hi : i < κ) (hM : μ.1 20 0 9 = nI (fcT so n tb l 96)) (hV : ∀ o, o < 96 → fbT so n tb l o = 99 → μ.1 26 0 (fcT so n tb l o) = nI o) (h : ∀ μ', agU μ μ' → Q (nI (sqN so n tb l (tb (i + 1)) 96)) 0 (0, 0) μ') : Call (d + 3) n10_unlikeOn [sR 20 0, sI x] μ Q := by
  subst hx
  have hκ := h1.2.2.1
  have hf := fc_le (so := so) (n := n) (tb := tb) (l := l) 96
  generalize hT : tb (i + 1) = T at h
  refine call_go (cd := k10_unlikeOn) 4 rfl rfl ?_
  refine loopC (cd := k10_unlikeOn) (d := d + 2) (Q := Q) (fcT so n tb l 96) (fun k ls μ' => ∃ m, m ≤ 96 ∧ fcT so n tb l m = k ∧ ls = [some (sR 20 0), some (sI (nI i)), some (sI (nI (sqN so n tb l T m))), some (sI (nI k))] ∧ agU μ μ' ∧ (∀ j, j < sqN so n tb l T m → ∃ o, o < m ∧ fbT so n tb l o = 99 ∧ μ'.2 27 j = ocT so n T o) ∧ ∀ o, o < m → fbT so n tb l o = 99 → ∃ j, j < sqN so n tb l T m ∧ μ'.2 27 j = ocT so n T o) 4 0 _ _ (Nat.zero_le _) ⟨0, by omega, rfl, rfl, agU.rf, fun j hj => absurd hj (Nat.not_lt_zero j), fun o ho => absurd ho (Nat.not_lt_zero o)⟩ ?_
  rintro k ls μ1 hk ⟨m, hm, hmk, rfl, A1, J1, O1⟩ kk
  have M1 : μ1.1 20 0 9 = nI (fcT so n tb l 96) := by rw [A1.1]; exact hM
  have sl := sq_le (so := so) (n := n) (tb := tb) (l := l) (T := T) (m := m)
  refine run_go 4 ?_
  by_cases q : k = fcT so n tb l 96
  · refine brT (by simp (disch := first | omega | (simp (disch := omega) only [nI_toInt, Int32.reduceToInt, i_sub, i_add, i_mul]; omega)) only [M1, iNONE, i_lt, i_le, i_eq, i_in, nI_toInt, Int32.reduceToInt, i_sub, i_add, i_mul]; omega) ?_
    refine run_go 10 ?_
    have e : sqN so n tb l T 96 = sqN so n tb l T m := sq_gap hm (fun o h3 h4 h5 => by
      have a1 := fc_mono (so := so) (n := n) (tb := tb) (l := l) h3
      have a2 := fc_lt (so := so) (n := n) (tb := tb) (l := l) h4 h5
      omega)
    have h := h _ A1
    rw [e] at h
    exact h
  · refine brF (by simp (disch := first | omega | (simp (disch := omega) only [nI_toInt, Int32.reduceToInt, i_sub, i_add, i_mul]; omega)) only [M1, iNONE, i_lt, i_le, i_eq, i_in, nI_toInt, Int32.reduceToInt, i_sub, i_add, i_mul]; omega) ?_
    refine run_go 3 ?_
    refine brF (by simp (disch := first | omega | (simp (disch := omega) only [nI_toInt, Int32.reduceToInt, i_sub, i_add, i_mul]; omega)) only [iNONE, i_lt, i_le, i_eq, i_in, nI_toInt, Int32.reduceToInt, i_sub, i_add, i_mul]; omega) ?_
    obtain ⟨o, ho, Fo, eo⟩ := fc_ex (so := so) (n := n) (tb := tb) (l := l) 96 k (by omega)
    have hmo : m ≤ o := Classical.byContradiction (fun z => by
      have := fc_lt (so := so) (n := n) (tb := tb) (l := l) (m := o) (m' := m) (by omega) Fo
      omega)
    have gap : ∀ o', m ≤ o' → o' < o → ¬ fbT so n tb l o' = 99 := fun o' h3 h4 h5 => by
      have a1 := fc_mono (so := so) (n := n) (tb := tb) (l := l) h3
      have a2 := fc_lt (so := so) (n := n) (tb := tb) (l := l) h4 h5
      omega
    have eg : sqN so n tb l T o = sqN so n tb l T m := sq_gap hmo gap
    have en : nwO so n tb l T o ↔ ¬ ∃ j, j < sqN so n tb l T m ∧ μ1.2 27 j = ocT so n T o := by
      constructor
      · rintro ⟨_, z⟩ ⟨j, hj, e⟩
        obtain ⟨o', h3, h4, h5⟩ := J1 j hj
        exact z o' (by omega) h4 (h5.symm.trans e)
      · intro z
        refine ⟨Fo, fun o' h3 h4 h5 => ?_⟩
        by_cases q2 : o' < m
        · obtain ⟨j, hj, e⟩ := O1 o' q2 h4
          exact z ⟨j, hj, e.trans h5⟩
        · exact gap o' (by omega) h3 h4
    have es : sqN so n tb l T (o + 1) = sqN so n tb l T m + tB (nwO so n tb l T o) := by rw [← eg]; rfl
    have ek : fcT so n tb l (o + 1) = k + 1 := by rw [fc_s, tB_t Fo, eo]
    refine run_go 14 ?_
    refine And.intro (by simp (disch := first | omega | (simp (disch := omega) only [nI_toInt, Int32.reduceToInt, i_sub, i_add, i_mul]; omega)) only [iNONE, i_lt, i_le, i_eq, i_in, nI_toInt, Int32.reduceToInt, i_sub, i_add, i_mul]; omega) ?_
    rw [nI_clamp (by omega), A1.1, ← eo, hV o ho Fo, eo]
    refine c7_outcome rfl rfl (agU_tb h1 A1) (h2.U A1) hi ho ?_
    rw [hT]
    refine c10_isNew rfl (by omega) (fun e => ?_) (fun e => ?_)
    · refine brT rfl ?_
      have kk3 := run_sub (kk [some (sR 20 0), some (sI (nI i)), some (sI (nI (sqN so n tb l T (o + 1)))), some (sI (nI (k + 1)))] μ1 (by omega) ⟨o + 1, by omega, ek, rfl, A1, ?_, ?_⟩) (subL.app _ [some (sL (ocT so n T o)), none])
      · rw [es, tB_f (fun z => en.mp z e), Nat.add_zero, ← nI_1] at kk3
        refine run_go 2 ?_
        exact kk3
      · rw [es, tB_f (fun z => en.mp z e), Nat.add_zero]
        intro j hj
        obtain ⟨o', h3, h4⟩ := J1 j hj
        exact ⟨o', by omega, h4⟩
      · rw [es, tB_f (fun z => en.mp z e), Nat.add_zero]
        intro o' h3 h4
        by_cases q2 : o' = o
        · subst q2; exact e
        · refine O1 o' (Classical.byContradiction (fun z => gap o' (by omega) (by omega) h4)) h4
    · refine brF (by decide) ?_
      have N := en.mpr e
      have kk3 := run_sub (kk [some (sR 20 0), some (sI (nI i)), some (sI (nI (sqN so n tb l T (o + 1)))), some (sI (nI (k + 1)))] (m_l μ1 27 (sqN so n tb l T m) (ocT so n T o)) (by omega) ⟨o + 1, by omega, ek, rfl, A1.tr ⟨rfl, fun a k z => ml_n (fun w => z w.1)⟩, ?_, ?_⟩) (subL.app _ [some (sL (ocT so n T o)), none])
      · rw [es, tB_t N, ← nI_1, ← nI_1] at kk3
        refine run_go 8 ?_
        refine And.intro (by simp (disch := first | omega | (simp (disch := omega) only [nI_toInt, Int32.reduceToInt, i_sub, i_add, i_mul]; omega)) only [iNONE, i_lt, i_le, i_eq, i_in, nI_toInt, Int32.reduceToInt, i_sub, i_add, i_mul]; omega) ?_
        rw [nI_clamp (by omega)]
        exact kk3
      · rw [es, tB_t N]
        intro j hj
        by_cases q2 : j = sqN so n tb l T m
        · subst q2
          exact ⟨o, by omega, Fo, ml_s⟩
        · obtain ⟨o', h3, h4, h5⟩ := J1 j (by omega)
          exact ⟨o', by omega, h4, (ml_n (fun w => q2 w.2)).trans h5⟩
      · rw [es, tB_t N]
        intro o' h3 h4
        by_cases q2 : o' = o
        · subst q2; exact ⟨sqN so n tb l T m, by omega, ml_s⟩
        · obtain ⟨j, hj, e5⟩ := O1 o' (Classical.byContradiction (fun z => gap o' (by omega) (by omega) h4)) h4
          exact ⟨j, by omega, (ml_n (by omega)).trans e5⟩
end OP
