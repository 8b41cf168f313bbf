/-! lesson, lessons, unteach -/
/-- lessons told one after another, their numbers from f; how many came -/
noncomputable def lsJ (κ : Nat) (l : lT) (f : Nat → Int32) : Nat → lT
  | 0 => l
  | j + 1 => tch κ (lsJ κ l f j) (f (4 * j)) (f (4 * j + 1)) (f (4 * j + 2)) (f (4 * j + 3))
noncomputable def lsK (κ : Nat) (l : lT) (f : Nat → Int32) : Nat → Nat
  | 0 => 0
  | j + 1 => lsK κ l f j + tB (0 ≤ (tcv κ (lsJ κ l f j) (f (4 * j)) (f (4 * j + 1)) (f (4 * j + 2)) (f (4 * j + 3))).toInt)
section OP
variable {d n k c s a b r u o i rel κ lr t p lm S e j : Nat} {l : lT} {μ μ' : sM} {Q : sQ} {so wt rc st en no te sd la mn : Nat → Nat} {it f : Nat → Int32} {T T' : tT} {tb : Nat → tT} {x y z w v : Int32} {ξ : Nat → Nat → Int32}
theorem INV.find2 (h : INV ξ μ) : INV ξ (m_i (m_i (m_i μ 0 0 11 x) 41 0 0 0) 41 0 1 x) := by
  refine h.sh (((frm.rf.mi (by unfold fS' fT fO fS fR fN fP fX fF fL; omega)).mi (by unfold fS' fT fO fS fR fN fP fX fF fL; omega)).mi (by unfold fS' fT fO fS fR fN fP fX fF fL; omega)) rfl ?_ rfl
  exact h.sg.fr (((frm.rf.mi (by unfold fS; omega)).mi (by unfold fS; omega)).mi (by unfold fS; omega))
theorem fLF_c (z : fLF a i k) : fLc a i k ∧ fLr a i k ∧ ¬ (a = 41 ∧ k = 0) ∧ ¬ (a = 41 ∧ k = 1) ∧ ¬ (a = 0 ∧ k = 11) := by
  have z1 : ¬ fL a i k := z.2.1
  have z2 : ¬ fF a i k := z.2.2
  have z3 : ¬ (a = 41 ∧ k = 0) := fun q => by obtain ⟨rfl, rfl⟩ := q; have := z.1; unfold fT fO fS fR fN fP fX fF fL at this; omega
  unfold fL at z1
  unfold fF at z2
  unfold fLc fLr
  omega
theorem op_lesson (hI : INV ξ μ) (h : ∀ v μ', opQ ξ (d + 20) n12_lesson [sR 41 0, sI x, sI y, sI z, sI w] v μ' → Q v 0 (0, 0) μ') : Call (d + 20) n11_lesson [sR 0 0, sI x, sI y, sI z, sI w] μ Q := by
  obtain ⟨n, so, wt, κ, tb, lr, h1, h2, h3⟩ := hI
  obtain ⟨l, g1, g2, g3⟩ := h3.lg
  have hκ := h1.2.2.1
  refine c11_lesson hκ h1.2.2.2.1 g1 g2 (fun μ1 C1 F1 E1 => ?_)
  refine h _ _ (fun Q hq => ?_)
  refine call_go (cd := k12_lesson) 20 rfl rfl ?_
  refine r12_teach hκ ((mi_k (by decide)).trans ((F1 41 0 6 (by unfold fLc; omega)).trans h1.2.2.2.2.1)) g1 (g3.fr (fun a i k z => ?_)) (fun μ2 R2 F2 E2 => ?_)
  · unfold fLr at z
    rw [mi_n (by omega), F1 a i k (by unfold fLc; omega)]
  · refine hq _ (inv_ls h1 h2 h3 (fun a i k z => ?_) (E2.trans E1) ?_ (tch_w hκ g1) (C1.fr (fun a i k z => ?_)) R2)
    · have z := fLF_c z
      rw [F2 a i k z.2.1, mi_n (by omega), F1 a i k z.1]
    · unfold stG
      rw [F2 0 0 11 (by unfold fLr; omega), F2 41 0 1 (by unfold fLr; omega), mi_t (by decide), mi_k (by decide), F1 0 0 11 (by unfold fLc; omega), F1 41 0 1 (by unfold fLc; omega)]
      exact h3.2.2.2.2.2.1
    · unfold fLc at z
      rw [F2 a i k (by unfold fLr; omega), mi_n (by omega)]
theorem c10_knows (hm : eN l ≤ 8) (hC : lsC μ l) (h1 : ∀ k, k < eN l → x = nI k → Q 1 0 (0, 0) μ) (h2 : x.toInt < 0 ∨ (eN l : Int) ≤ x.toInt → Q 0 0 (0, 0) μ) : Call (d + 1) n10_knows [sR 20 0, sI x] μ Q := by
  have rx := i_rng x
  have hk := hC.1
  refine call_go (cd := k10_knows) 30 rfl rfl ?_
  by_cases c1 : x.toInt < 0
  · refine brT (by simp (disch := first | omega | (simp (disch := omega) only [nI_toInt, Int32.reduceToInt, i_sub, i_add, i_mul]; omega)) only [iNONE, i_lt, i_le, i_eq, i_in, nI_toInt, Int32.reduceToInt, i_sub, i_add, i_mul]; omega) ?_
    exact ⟨Or.inl rfl, h2 (Or.inl c1)⟩
  · refine brF (by simp (disch := first | omega | (simp (disch := omega) only [nI_toInt, Int32.reduceToInt, i_sub, i_add, i_mul]; omega)) only [iNONE, i_lt, i_le, i_eq, i_in, nI_toInt, Int32.reduceToInt, i_sub, i_add, i_mul]; omega) ?_
    by_cases c2 : x.toInt < eN l
    · refine brF (by simp (disch := first | omega | (simp (disch := omega) only [nI_toInt, Int32.reduceToInt, i_sub, i_add, i_mul]; omega)) only [hk, iNONE, i_lt, i_le, i_eq, i_in, nI_toInt, Int32.reduceToInt, i_sub, i_add, i_mul]; omega) ?_
      obtain ⟨k, hk, rfl⟩ := nI_ofB (x := x) (b := eN l) (by omega) c2
      exact ⟨Or.inr rfl, h1 k hk rfl⟩
    · refine brT (by simp (disch := first | omega | (simp (disch := omega) only [nI_toInt, Int32.reduceToInt, i_sub, i_add, i_mul]; omega)) only [hk, iNONE, i_lt, i_le, i_eq, i_in, nI_toInt, Int32.reduceToInt, i_sub, i_add, i_mul]; omega) ?_
      exact ⟨Or.inl rfl, h2 (Or.inr (by omega))⟩
def tbL (l : lT) (j : Nat) : lT := (eN l, eS l, eE l, eO l, eH l, up1 (eD l) j 0)
theorem op_unteach (hI : INV ξ μ) (h : ∀ v μ', opQ ξ (d + 20) n12_unteach [sR 41 0, sI x] v μ' → Q v 0 (0, 0) μ') : Call (d + 20) n11_unteach [sR 0 0, sI x] μ Q := by
  have hI0 := hI
  obtain ⟨n, so, wt, κ, tb, lr, h1, h2, h3⟩ := hI0
  obtain ⟨l, g1, g2, g3⟩ := h3.lg
  have hm := g1.1
  have k0 : (m_i μ 41 0 0 0).1 41 0 8 = nI (eN l) := g3.1
  refine call_go (cd := k11_unteach) 60 rfl rfl ?_
  refine c10_knows hm g2 (fun j hj e => ?_) (fun e => ?_)
  · subst e
    have hd := (g1.2 j hj).2.2.2.2
    have c5 := (g2.2 j hj).2.2.2.2
    have r5 := (g3.2.1 j hj).2.2.2.2
    refine brnF (by decide) ?_
    refine call_go (cd := k10_takeBack) 60 rfl rfl ?_
    refine c10_knows hm g2 (fun _ _ _ => ?_) (fun q => by rw [nI_toInt (by omega)] at q; omega)
    refine brF (by decide) ?_
    refine And.intro (by simp (disch := first | omega | (simp (disch := omega) only [nI_toInt, Int32.reduceToInt, i_sub, i_add, i_mul]; omega)) only [iNONE, i_lt, i_le, i_eq, i_in, nI_toInt, Int32.reduceToInt, i_sub, i_add, i_mul]; omega) ?_
    rw [nI_clamp (by omega), c5]
    by_cases e : eD l j = 0
    · refine brT (by rw [e]; rfl) ?_
      refine brT rfl ?_
      refine ⟨Or.inl rfl, ?_⟩
      refine brT rfl ?_
      refine h _ _ (fun Q hq => ?_)
      refine call_go (cd := k12_unteach) 60 rfl rfl ?_
      refine r12_inN (b := eN l) (j_less (by omega) k0) (fun _ _ _ => ?_) (fun q => by rw [nI_toInt (by omega)] at q; omega)
      refine brnF (by decide) ?_
      refine And.intro (by simp (disch := first | omega | (simp (disch := omega) only [nI_toInt, Int32.reduceToInt, i_sub, i_add, i_mul]; omega)) only [iNONE, i_lt, i_le, i_eq, i_in, nI_toInt, Int32.reduceToInt, i_sub, i_add, i_mul]; omega) ?_
      rw [nI_clamp (by omega)]
      refine brF (show ¬ μ.1 50 0 j = 0 from by rw [r5, e]; decide) ?_
      exact hq _ hI.th
    · have e1 : eD l j = 1 := by omega
      refine brF (by rw [e1]; decide) ?_
      refine brF (by decide) ?_
      refine And.intro (by simp (disch := first | omega | (simp (disch := omega) only [nI_toInt, Int32.reduceToInt, i_sub, i_add, i_mul]; omega)) only [iNONE, i_lt, i_le, i_eq, i_in, nI_toInt, Int32.reduceToInt, i_sub, i_add, i_mul]; omega) ?_
      rw [nI_clamp (by omega)]
      refine ⟨Or.inr rfl, ?_⟩
      refine brF (by decide) ?_
      refine h _ _ (fun Q hq => ?_)
      refine call_go (cd := k12_unteach) 60 rfl rfl ?_
      refine r12_inN (b := eN l) (j_less (by omega) k0) (fun _ _ _ => ?_) (fun q => by rw [nI_toInt (by omega)] at q; omega)
      refine brnF (by decide) ?_
      refine And.intro (by simp (disch := first | omega | (simp (disch := omega) only [nI_toInt, Int32.reduceToInt, i_sub, i_add, i_mul]; omega)) only [iNONE, i_lt, i_le, i_eq, i_in, nI_toInt, Int32.reduceToInt, i_sub, i_add, i_mul]; omega) ?_
      rw [nI_clamp (by omega)]
      refine brT (show μ.1 50 0 j = 0 from by rw [r5, e1]; rfl) ?_
      refine And.intro (by simp (disch := first | omega | (simp (disch := omega) only [nI_toInt, Int32.reduceToInt, i_sub, i_add, i_mul]; omega)) only [iNONE, i_lt, i_le, i_eq, i_in, nI_toInt, Int32.reduceToInt, i_sub, i_add, i_mul]; omega) ?_
      rw [nI_clamp (by omega)]
      refine hq _ (inv_ls (l := tbL l j) h1 h2 h3 (fun a i k z => ?_) rfl h3.2.2.2.2.2.1 ⟨hm, fun q hq' => ?_⟩ ⟨g2.1, fun q hq' => ?_⟩ ⟨g3.1, fun q hq' => ?_, fun q hq1 hq2 => ?_⟩)
      · have z := fLF_c z
        have z1 := z.1
        have z2 := z.2.1
        unfold fLc at z1
        unfold fLr at z2
        rw [mi_n (by omega), mi_n (by omega), mi_n (by omega)]
      · have g := g1.2 q hq'
        refine ⟨g.1, g.2.1, g.2.2.1, g.2.2.2.1, ?_⟩
        show up1 (eD l) j 0 q < 2
        by_cases q2 : q = j
        · rw [q2, up1_s]; decide
        · rw [up1_n q2]; exact g.2.2.2.2
      · have g := g2.2 q hq'
        refine ⟨g.1, g.2.1, g.2.2.1, g.2.2.2.1, ?_⟩
        rw [mi_t (by decide), mi_t (by decide)]
        show _ = nI (up1 (eD l) j 0 q)
        by_cases q2 : q = j
        · rw [q2, up1_s, mi_s]; decide
        · rw [up1_n q2, mi_k q2]; exact g.2.2.2.2
      · have g := g3.2.1 q hq'
        refine ⟨g.1, g.2.1, g.2.2.1, g.2.2.2.1, ?_⟩
        show _ = nI (1 - up1 (eD l) j 0 q)
        by_cases q2 : q = j
        · rw [q2, up1_s, mi_s]; decide
        · rw [up1_n q2, mi_k q2, mi_t (by decide), mi_t (by decide)]; exact g.2.2.2.2
      · have q2 : q ≠ j := by
          have : eN l ≤ q := hq1
          omega
        rw [mi_k q2, mi_t (by decide), mi_t (by decide)]; exact g3.2.2 q hq1 hq2
  · refine brnT rfl ?_
    refine h _ _ (fun Q hq => ?_)
    refine call_go (cd := k12_unteach) 60 rfl rfl ?_
    refine r12_inN (b := eN l) (j_less (by omega) k0) (fun k hk e2 => by subst e2; rw [nI_toInt (by omega)] at e; omega) (fun q => ?_)
    refine brnT rfl ?_
    exact hq _ hI.th
theorem r12_lookItems (hx : x = nI s) (hs : s < 8) (hW : shW la mn) (hR : shR μ la mn it) (h1 : la s = 9 → Q (-1000011) 0 (0, 0) (m_i μ 41 0 1 1)) (h2 : la s ≠ 9 → ¬ (0 ≤ y.toInt ∧ y.toInt + z.toInt ≤ mn s) → Q (-1000012) 0 (0, 0) (m_i μ 41 0 1 2)) (h3 : la s ≠ 9 → (0 ≤ y.toInt ∧ y.toInt + z.toInt ≤ mn s) → Q 0 0 (0, 0) μ) : Call (d + 2) n12_lookItems [sR 41 0, sI x, sI y, sI z] μ Q := by
  subst hx
  have hm := hW s hs
  have ry := i_rng y
  have rl := (hR.1 s hs).1
  refine call_go (cd := k12_lookItems) 60 rfl rfl ?_
  refine And.intro (by simp (disch := first | omega | (simp (disch := omega) only [nI_toInt, Int32.reduceToInt, i_sub, i_add, i_mul]; omega)) only [iNONE, i_lt, i_le, i_eq, i_in, nI_toInt, Int32.reduceToInt, i_sub, i_add, i_mul]; omega) ?_
  rw [nI_clamp (by omega), rl]
  by_cases e : la s = 9
  · refine brF (by rw [e]; decide) ?_
    refine r12_finding ?_
    exact h1 e
  · have rm := (hR.1 s hs).2 e
    refine brT (by rw [m9_n e]; exact (by simp (disch := first | omega | (simp (disch := omega) only [nI_toInt, Int32.reduceToInt, i_sub, i_add, i_mul]; omega)) only [iNONE, i_lt, i_le, i_eq, i_in, nI_toInt, Int32.reduceToInt, i_sub, i_add, i_mul]; omega)) ?_
    by_cases c1 : y.toInt < 0
    · refine brT (by simp (disch := first | omega | (simp (disch := omega) only [nI_toInt, Int32.reduceToInt, i_sub, i_add, i_mul]; omega)) only [iNONE, i_lt, i_le, i_eq, i_in, nI_toInt, Int32.reduceToInt, i_sub, i_add, i_mul]; omega) ?_
      refine r12_finding ?_
      exact h2 e (by omega)
    · refine brF (by simp (disch := first | omega | (simp (disch := omega) only [nI_toInt, Int32.reduceToInt, i_sub, i_add, i_mul]; omega)) only [iNONE, i_lt, i_le, i_eq, i_in, nI_toInt, Int32.reduceToInt, i_sub, i_add, i_mul]; omega) ?_
      refine And.intro (by simp (disch := first | omega | (simp (disch := omega) only [nI_toInt, Int32.reduceToInt, i_sub, i_add, i_mul]; omega)) only [iNONE, i_lt, i_le, i_eq, i_in, nI_toInt, Int32.reduceToInt, i_sub, i_add, i_mul]; omega) ?_
      rw [nI_clamp (by omega), rm]
      by_cases c2 : y.toInt + z.toInt ≤ mn s
      · refine brT (by rw [cmp_le, j_add, j_of]; simp (disch := omega) only [nI_toInt]; omega) ?_
        exact h3 e ⟨by omega, c2⟩
      · refine brF (by rw [cmp_le, j_add, j_of]; simp (disch := omega) only [nI_toInt]; omega) ?_
        refine r12_finding ?_
        exact h2 e (by omega)
theorem lsJ_w (hκ : κ ≤ 8) (h : lsW κ l) : ∀ j, lsW κ (lsJ κ l f j)
  | 0 => h
  | j + 1 => tch_w hκ (lsJ_w hκ h j)
theorem lsK_le : ∀ j, lsK κ l f j ≤ j
  | 0 => Nat.le_refl 0
  | j + 1 => by
    have h1 := lsK_le j
    have h2 := tB_le (P := 0 ≤ (tcv κ (lsJ κ l f j) (f (4 * j)) (f (4 * j + 1)) (f (4 * j + 2)) (f (4 * j + 3))).toInt)
    show lsK κ l f j + _ ≤ j + 1
    omega
theorem nI_4 (i j : Nat) : nI i + 4 * nI j = nI (i + 4 * j) := by
  show nI i + nI 4 * nI j = _
  simp only [nI_mul, nI_add]
theorem nI_at (i c : Nat) : nI i + Int32.ofNat c = nI (i + c) := nI_add i c
theorem op_lessons (hI : INV ξ μ) (h : ∀ v μ', opQ ξ (d + 20) n12_lessons [sR 41 0, sI x, sI y, sI z] v μ' → Q v 0 (0, 0) μ') : Call (d + 20) n11_lessons [sR 0 0, sI x, sI y, sI z] μ Q := by
  have hI0 := hI
  obtain ⟨n, so, wt, κ, tb, lr, h1, h2, h3⟩ := hI0
  obtain ⟨l, g1, g2, g3⟩ := h3.lg
  obtain ⟨la, mn, it, w1, w2, w3⟩ := hI.sg
  have hκ := h1.2.2.1
  have rz := i_rng z
  by_cases hb : (∃ s, s < 8 ∧ x = nI s) ∧ (1 ≤ z.toInt ∧ z.toInt ≤ 4)
  · obtain ⟨⟨s, hs, rfl⟩, hz⟩ := hb
    obtain ⟨m, hm, rfl⟩ := nI_ofB (x := z) (b := 5) (by omega) (by omega)
    simp (disch := omega) only [nI_toInt] at hz
    have z4 : (4 * nI m).toInt = 4 * m := by
      have e : (4 : Int32).toInt = 4 := by decide
      rw [i_mul (by rw [e, nI_toInt (by omega)]; omega) (by rw [e, nI_toInt (by omega)]; omega), e, nI_toInt (by omega)]
    have pre : ∀ (M : sM) (Q : sQ), Run k12_lessons (Call (d + 19)) Q 27 [some (sR 41 0), some (sI (nI s)), some (sI y), some (sI (nI m))] [] (m_i M 41 0 0 0) → Call (d + 20) n12_lessons [sR 41 0, sI (nI s), sI y, sI (nI m)] M Q := by
      intro M Q hr
      refine call_go (cd := k12_lessons) 6 rfl rfl ?_
      refine r12_sheetY hs ?_
      refine brF (by decide) ?_
      refine run_go 6 ?_
      refine r12_in (fun _ => ?_) (fun e => absurd (by rw [j_of, show (1 : Int64).toInt = 1 from by decide, show (4 : Int64).toInt = 4 from by decide, nI_toInt (by omega)]; omega) e)
      refine brnF (by decide) ?_
      exact hr
    refine call_go (cd := k11_lessons) 4 rfl rfl ?_
    refine c11_isWithin (b := 8) rfl rfl (by omega) (by decide) (fun _ => ?_) (fun z => by omega)
    refine brF (by decide) ?_
    refine run_go 3 ?_
    refine brF (by simp (disch := first | omega | (simp (disch := omega) only [nI_toInt, Int32.reduceToInt, i_sub, i_add, i_mul]; omega)) only [iNONE, i_lt, i_le, i_eq, i_in, nI_toInt, Int32.reduceToInt, i_sub, i_add, i_mul]; omega) ?_
    refine run_go 3 ?_
    refine brT (by simp (disch := first | omega | (simp (disch := omega) only [nI_toInt, Int32.reduceToInt, i_sub, i_add, i_mul]; omega)) only [iNONE, i_lt, i_le, i_eq, i_in, nI_toInt, Int32.reduceToInt, i_sub, i_add, i_mul]; omega) ?_
    refine run_go 5 ?_
    refine c6_isMissing rfl hs w1 w2 (fun e2 => ?_) (fun e2 => ?_)
    · refine brF (by decide) ?_
      refine run_go 20 ?_
      refine c11_found ?_
      refine h _ _ (fun Q hq => pre _ _ ?_)
      refine run_go 20 ?_
      refine r12_lookItems rfl hs w1 (w3.fr ((frm.rf.mi (by unfold fS; omega)).mi (by unfold fS; omega))) (fun _ => ?_) (fun q => absurd e2 q) (fun q => absurd e2 q)
      refine brF (by decide) ?_
      exact hq _ hI.find2
    · refine brT rfl ?_
      refine run_go 9 ?_
      refine c6_spans rfl hs w1 w2 e2 (fun e3 => ?_) (fun e3 => ?_)
      · refine brnF (by decide) ?_
        rw [z4] at e3
        have hmn := (w1 s hs).2
        obtain ⟨i, hi, rfl⟩ := nI_ofB (x := y) (b := 41) (by omega) (by omega)
        simp (disch := omega) only [nI_toInt] at e3
        have hsp : i + 4 * m ≤ mn s := by omega
        generalize hf : (fun q => it (40 * s + i + q)) = f
        have hf' : ∀ q, it (40 * s + i + q) = f q := fun q => by rw [← hf]
        refine run_go 4 ?_
        refine loopC (cd := k11_lessons) (d := d + 19) (Q := Q) m (fun j ls μ' => ls = [some (sR 0 0), some (sI (nI s)), some (sI (nI i)), some (sI (nI m)), some (sI (nI (lsK κ l f j))), some (sI (nI j))] ∧ lsC μ' (lsJ κ l f j) ∧ frm fLc μ μ' ∧ μ'.2 = μ.2) 66 0 _ _ (Nat.zero_le _) ⟨rfl, g2, frm.rf, rfl⟩ ?_
        rintro j ls μ1 hj ⟨rfl, C1, F1, E1⟩ kk
        have lk := lsK_le (κ := κ) (l := l) (f := f) j
        refine run_go 3 ?_
        by_cases q : j = m
        · subst q
          refine brT (by simp (disch := first | omega | (simp (disch := omega) only [nI_toInt, Int32.reduceToInt, i_sub, i_add, i_mul]; omega)) only [iNONE, i_lt, i_le, i_eq, i_in, nI_toInt, Int32.reduceToInt, i_sub, i_add, i_mul]; omega) ?_
          refine run_go 20 ?_
          refine c11_foundNothing ?_
          refine h _ _ (fun Q hq => pre _ _ ?_)
          have R1 : shR (m_i (m_i μ1 0 0 11 0) 41 0 0 0) la mn it := w3.fr (fun a i k z => by unfold fS at z; rw [mi_n (by omega), mi_n (by omega), F1 a i k (by unfold fLc; omega)])
          refine run_go 10 ?_
          refine r12_lookItems rfl hs w1 R1 (fun q => absurd q e2) (fun _ q => absurd (by rw [z4, nI_toInt (by omega)]; omega) q) (fun _ _ => ?_)
          refine brT (by decide) ?_
          refine run_go 7 ?_
          refine loopC (cd := k12_lessons) (d := d + 19) (Q := Q) j (fun p ls μ' => ls = [some (sR 41 0), some (sI (nI s)), some (sI (nI i)), some (sI (nI j)), some (sI 0), some (sI (nI (lsK κ l f p))), some (sI (nI p))] ∧ lsR μ' (lsJ κ l f p) ∧ frm fLr (m_i (m_i (m_i μ1 0 0 11 0) 41 0 0 0) 41 0 1 0) μ' ∧ μ'.2 = μ1.2) 57 0 _ _ (Nat.zero_le _) ⟨rfl, ?_, frm.rf, rfl⟩ ?_
          · exact g3.fr (fun a i k z => by unfold fLr at z; rw [mi_n (by omega), mi_n (by omega), mi_n (by omega), F1 a i k (by unfold fLc; omega)])
          rintro p ls μ2 hp ⟨rfl, C2, F2, E2⟩ kk2
          have lk := lsK_le (κ := κ) (l := l) (f := f) p
          refine run_go 3 ?_
          by_cases q : p = j
          · subst q
            refine brT (by simp (disch := first | omega | (simp (disch := omega) only [nI_toInt, Int32.reduceToInt, i_sub, i_add, i_mul]; omega)) only [iNONE, i_lt, i_le, i_eq, i_in, nI_toInt, Int32.reduceToInt, i_sub, i_add, i_mul]; omega) ?_
            refine run_go 20 ?_
            refine hq _ (inv_ls (l := lsJ κ l f p) h1 h2 h3 (fun a i k z => ?_) (E2.trans E1) ?_ (lsJ_w hκ g1 p) (C1.fr (fun a i k z => ?_)) C2)
            · have z := fLF_c z
              rw [F2 a i k z.2.1, mi_n (by omega), mi_n (by omega), mi_n (by omega), F1 a i k z.1]
            · unfold stG
              rw [F2 0 0 11 (by unfold fLr; omega), F2 41 0 1 (by unfold fLr; omega), mi_s, mi_t (by decide), mi_t (by decide), mi_s]
            · unfold fLc at z
              rw [F2 a i k (by unfold fLr; omega), mi_n (by omega), mi_n (by omega), mi_n (by omega)]
          · refine brF (by simp (disch := first | omega | (simp (disch := omega) only [nI_toInt, Int32.reduceToInt, i_sub, i_add, i_mul]; omega)) only [iNONE, i_lt, i_le, i_eq, i_in, nI_toInt, Int32.reduceToInt, i_sub, i_add, i_mul]; omega) ?_
            refine run_go 36 ?_
            have e5 : 40 * nI s + nI i + 4 * nI p = nI (40 * s + i + 4 * p) := by rw [nI_04, nI_4]
            have e6 : ∀ c, c < 4 → 40 * nI s + nI i + 4 * nI p + Int32.ofNat c = nI (40 * s + i + 4 * p + c) := fun c _ => by rw [e5, nI_at]
            have e7 : ∀ c, c < 4 → μ2.1 53 0 (40 * s + i + 4 * p + c) = f (4 * p + c) := fun c hc => by
              rw [F2 53 0 _ (by unfold fLr; omega), mi_t (by decide), mi_t (by decide), mi_t (by decide), F1 53 0 _ (by unfold fLc; omega), w3.2 _ (by omega), ← hf', Nat.add_assoc (40 * s + i)]
            refine And.intro (by rw [e5]; exact vp_in_nI (by omega) (by decide)) ?_
            refine And.intro (by rw [show (1 : Int32) = Int32.ofNat 1 from rfl, e6 1 (by decide)]; exact vp_in_nI (by omega) (by decide)) ?_
            refine And.intro (by rw [show (2 : Int32) = Int32.ofNat 2 from rfl, e6 2 (by decide)]; exact vp_in_nI (by omega) (by decide)) ?_
            refine And.intro (by rw [show (3 : Int32) = Int32.ofNat 3 from rfl, e6 3 (by decide)]; exact vp_in_nI (by omega) (by decide)) ?_
            rw [show (1 : Int32) = Int32.ofNat 1 from rfl, show (2 : Int32) = Int32.ofNat 2 from rfl, show (3 : Int32) = Int32.ofNat 3 from rfl, e6 1 (by decide), e6 2 (by decide), e6 3 (by decide), e5, nI_clamp (by omega), nI_clamp (by omega), nI_clamp (by omega), nI_clamp (by omega), e7 1 (by decide), e7 2 (by decide), e7 3 (by decide), show μ2.1 53 0 (40 * s + i + 4 * p) = f (4 * p) from e7 0 (by decide)]
            refine r12_teach hκ ?_ (lsJ_w hκ g1 p) C2 (fun μ3 C3 F3 E3 => ?_)
            · rw [F2 41 0 6 (by unfold fLr; omega), mi_k (by decide), mi_k (by decide), mi_t (by decide), F1 41 0 6 (by unfold fLc; omega)]; exact h1.2.2.2.2.1
            · have kk3 := fun m3 q => run_sub (kk2 [some (sR 41 0), some (sI (nI s)), some (sI (nI i)), some (sI (nI j)), some (sI 0), some (sI (nI (lsK κ l f (p + 1)))), some (sI (nI (p + 1)))] m3 (by omega) q) (subL.app _ [some (sI (nI (40 * s + i + 4 * p)))])
              have kk3 := kk3 μ3 ⟨rfl, C3, F2.tr F3, E3.trans E2⟩
              rw [show lsK κ l f (p + 1) = lsK κ l f p + tB (0 ≤ (tcv κ (lsJ κ l f p) (f (4 * p)) (f (4 * p + 1)) (f (4 * p + 2)) (f (4 * p + 3))).toInt) from rfl, ← nI_add, ← nI_1] at kk3
              generalize tcv κ (lsJ κ l f p) (f (4 * p)) (f (4 * p + 1)) (f (4 * p + 2)) (f (4 * p + 3)) = V at kk3 ⊢
              have rV := i_rng V
              by_cases c1 : 0 ≤ V.toInt
              · rw [tB_t c1] at kk3
                refine brF (by simp (disch := first | omega | (simp (disch := omega) only [nI_toInt, Int32.reduceToInt, i_sub, i_add, i_mul]; omega)) only [iNONE, i_lt, i_le, i_eq, i_in, nI_toInt, Int32.reduceToInt, i_sub, i_add, i_mul]; omega) ?_
                refine run_go 6 ?_
                exact kk3
              · rw [tB_f c1] at kk3
                refine brT (by simp (disch := first | omega | (simp (disch := omega) only [nI_toInt, Int32.reduceToInt, i_sub, i_add, i_mul]; omega)) only [iNONE, i_lt, i_le, i_eq, i_in, nI_toInt, Int32.reduceToInt, i_sub, i_add, i_mul]; omega) ?_
                refine run_go 5 ?_
                exact kk3
        · refine brF (by simp (disch := first | omega | (simp (disch := omega) only [nI_toInt, Int32.reduceToInt, i_sub, i_add, i_mul]; omega)) only [iNONE, i_lt, i_le, i_eq, i_in, nI_toInt, Int32.reduceToInt, i_sub, i_add, i_mul]; omega) ?_
          refine run_go 37 ?_
          have S1 : shC μ1 la mn it := w2.fr (fun a i k z => by unfold fS at z; exact F1 a i k (by unfold fLc; omega))
          have e6 : ∀ c, c < 4 → nI i + 4 * nI j + Int32.ofNat c = nI (i + 4 * j + c) := fun c _ => by rw [nI_4, nI_at]
          have e7 : ∀ c, c < 4 → it (40 * s + (i + 4 * j + c)) = f (4 * j + c) := fun c hc => by rw [← hf', show 40 * s + (i + 4 * j + c) = 40 * s + i + (4 * j + c) by omega]
          refine c6_read rfl (nI_4 i j) hs w1 S1 e2 (by omega) ?_
          refine c6_read rfl (e6 1 (by decide)) hs w1 S1 e2 (by omega) ?_
          refine c6_read rfl (e6 2 (by decide)) hs w1 S1 e2 (by omega) ?_
          refine c6_read rfl (e6 3 (by decide)) hs w1 S1 e2 (by omega) ?_
          rw [e7 1 (by decide), e7 2 (by decide), e7 3 (by decide), show it (40 * s + (i + 4 * j)) = f (4 * j) from e7 0 (by decide)]
          refine c11_lesson hκ ((F1 16 0 5 (by unfold fLc; omega)).trans h1.2.2.2.1) (lsJ_w hκ g1 j) C1 (fun μ3 C3 F3 E3 => ?_)
          have kk3 := fun v m3 q => run_sub (kk [some (sR 0 0), some (sI (nI s)), some (sI (nI i)), some (sI (nI m)), some (sI (nI (lsK κ l f (j + 1)))), some (sI (nI (j + 1)))] m3 (by omega) q) (subL.app _ [some (sI (nI i + 4 * nI j)), some (sI v)])
          have kk3 := fun v => kk3 v μ3 ⟨rfl, C3, F1.tr F3, E3.trans E1⟩
          rw [show lsK κ l f (j + 1) = lsK κ l f j + tB (0 ≤ (tcv κ (lsJ κ l f j) (f (4 * j)) (f (4 * j + 1)) (f (4 * j + 2)) (f (4 * j + 3))).toInt) from rfl, ← nI_add, ← nI_1] at kk3
          generalize tcv κ (lsJ κ l f j) (f (4 * j)) (f (4 * j + 1)) (f (4 * j + 2)) (f (4 * j + 3)) = V at kk3 ⊢
          have kk3 := kk3 V
          have rV := i_rng V
          by_cases c1 : 0 ≤ V.toInt
          · rw [tB_t c1] at kk3
            refine brF (by simp (disch := first | omega | (simp (disch := omega) only [nI_toInt, Int32.reduceToInt, i_sub, i_add, i_mul]; omega)) only [iNONE, i_lt, i_le, i_eq, i_in, nI_toInt, Int32.reduceToInt, i_sub, i_add, i_mul]; omega) ?_
            refine run_go 3 ?_
            exact kk3
          · rw [tB_f c1, show nI 0 = 0 from rfl, Int32.add_zero] at kk3
            refine brT (by simp (disch := first | omega | (simp (disch := omega) only [nI_toInt, Int32.reduceToInt, i_sub, i_add, i_mul]; omega)) only [iNONE, i_lt, i_le, i_eq, i_in, nI_toInt, Int32.reduceToInt, i_sub, i_add, i_mul]; omega) ?_
            refine run_go 2 ?_
            exact kk3
      · refine brnT rfl ?_
        rw [z4] at e3
        refine run_go 20 ?_
        refine c11_found ?_
        refine h _ _ (fun Q hq => pre _ _ ?_)
        refine run_go 20 ?_
        refine r12_lookItems rfl hs w1 (w3.fr ((frm.rf.mi (by unfold fS; omega)).mi (by unfold fS; omega))) (fun q => absurd q e2) (fun _ _ => ?_) (fun _ q => absurd q (by rw [z4]; omega))
        refine brF (by decide) ?_
        exact hq _ hI.find2
  · have hB : Q (-1000001) 0 (0, 0) μ := by
      refine h _ _ (fun Q hq => ?_)
      have hq' := hq _ hI.th
      refine call_go (cd := k12_lessons) 60 rfl rfl ?_
      refine r12_isSheet (fun s hs e1 => ?_) (fun q => ?_)
      · refine brF (by decide) ?_
        refine r12_in (fun q => absurd ⟨⟨s, hs, e1⟩, by rw [j_of, show (1 : Int64).toInt = 1 from by decide, show (4 : Int64).toInt = 4 from by decide] at q; exact q⟩ hb) (fun q => ?_)
        refine brnT rfl ?_
        exact hq'
      · refine brT rfl ?_
        exact hq'
    refine call_go (cd := k11_lessons) 60 rfl rfl ?_
    refine c11_within (b := 8) rfl (by decide) (fun s hs e1 => ?_) (fun _ => ?_)
    · refine brF (by decide) ?_
      have e3 : ¬ (1 ≤ z.toInt ∧ z.toInt ≤ 4) := fun e => hb ⟨⟨s, hs, e1⟩, e⟩
      by_cases c1 : z.toInt < 1
      · refine brT (by simp (disch := first | omega | (simp (disch := omega) only [nI_toInt, Int32.reduceToInt, i_sub, i_add, i_mul]; omega)) only [iNONE, i_lt, i_le, i_eq, i_in, nI_toInt, Int32.reduceToInt, i_sub, i_add, i_mul]; omega) ?_
        exact hB
      · refine brF (by simp (disch := first | omega | (simp (disch := omega) only [nI_toInt, Int32.reduceToInt, i_sub, i_add, i_mul]; omega)) only [iNONE, i_lt, i_le, i_eq, i_in, nI_toInt, Int32.reduceToInt, i_sub, i_add, i_mul]; omega) ?_
        refine brF (by simp (disch := first | omega | (simp (disch := omega) only [nI_toInt, Int32.reduceToInt, i_sub, i_add, i_mul]; omega)) only [iNONE, i_lt, i_le, i_eq, i_in, nI_toInt, Int32.reduceToInt, i_sub, i_add, i_mul]; omega) ?_
        exact hB
    · refine brT rfl ?_
      exact hB
end OP
