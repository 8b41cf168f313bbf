/-! what bars an order: the reference; barred, fits -/
def rfG (μ : sM) (n : Nat) (so wt : Nat → Nat) (κ : Nat) (tb : Nat → tT) (l : lT) : Prop := stkR μ n so wt ∧ (∀ t, t ≤ κ → tabR μ t (tb t)) ∧ lsR μ l
/-- nothing of the reference but its rows from the ninth on -/
def agK (μ μ' : sM) : Prop := (∀ a i k, ¬ (a = 42 ∧ 558 ≤ k) → μ'.1 a i k = μ.1 a i k) ∧ μ'.2 = μ.2
section OP
variable {d n k c s a b r u o i rel κ lr t p j : Nat} {μ μ' μ'' : sM} {Q : sQ} {so wt : Nat → Nat} {T T' : tT} {tb : Nat → tT} {l : lT} {x y z w v : Int32} {ξ : Nat → Nat → Int32}
theorem agK.rf : agK μ μ := ⟨fun _ _ _ _ => rfl, rfl⟩
theorem agK.tr (h : agK μ μ') (h' : agK μ' μ'') : agK μ μ'' := ⟨fun a i k z => (h'.1 a i k z).trans (h.1 a i k z), h'.2.trans h.2⟩
theorem agR.K (h' : agR r μ μ') (hr : 9 ≤ r) : agK μ μ' := ⟨fun a i k z => h'.1 a i k (by omega), h'.2⟩
theorem rfG.K (h : rfG μ n so wt κ tb l) (hκ : κ ≤ 8) (g : agK μ μ') : rfG μ' n so wt κ tb l := by
  refine ⟨⟨?_, h.1.2.1, fun k hk => ?_⟩, fun t ht => ?_, h.2.2.fr (fun a i k z => g.1 a i k (by unfold fLr at z; omega))⟩
  · rw [g.1 41 0 3 (by omega)]; exact h.1.1
  · rw [g.1 43 0 k (by omega), g.1 44 0 k (by omega)]; exact h.1.2.2 k hk
  · have q := h.2.1 t ht
    refine ⟨fun c hc => ?_, fun c i hc hi => ?_, fun k hk => ?_⟩
    · rw [g.1 42 0 _ (by omega)]; exact q.1 c hc
    · rw [g.1 42 0 _ (by omega)]; exact q.2.1 c i hc hi
    · rw [g.1 42 0 _ (by omega)]; exact q.2.2 k hk
theorem INV.K (h : INV ξ μ) (g : agK μ μ') : INV ξ μ' := h.fr (fun a i k z => g.1 a i k (by unfold fA fT fO fS fR fN fP fX fF fL at z; omega)) g.2
theorem r12_isBarring9 (hx : x = nI j) (hy : y = nI o) (hκ : κ ≤ 8) (hw : ∀ t, t ≤ κ → wfT so n (tb t)) (hG : rfG μ n so wt κ tb l) (hW : lsW κ l) (hj : j < eN l) (ho : o < 96) (q1 : brP so n tb l j o → ∀ μ', agR 9 μ μ' → Q 1 0 (0, 0) μ') (q2 : ¬ brP so n tb l j o → ∀ μ', agR 9 μ μ' → Q 0 0 (0, 0) μ') : Call (d + 9) n12_isBarring [sR 41 0, sI x, sI y] μ Q := by
  subst hx; subst hy
  have hm := hW.1
  have w := hW.2 j hj
  have R := hG.2.2.2.1 j hj
  have hn := hG.1.2.1
  have ws := hw (eS l j + 1) (by omega)
  have we := hw (eE l j + 1) (by omega)
  refine call_go (cd := k12_isBarring) 60 rfl rfl ?_
  refine And.intro (by simp (disch := first | omega | (simp (disch := omega) only [nI_toInt, Int32.reduceToInt, i_sub, i_add, i_mul]; omega)) only [iNONE, i_lt, i_le, i_eq, i_in, nI_toInt, Int32.reduceToInt, i_sub, i_add, i_mul]; omega) ?_
  rw [nI_clamp (by omega), R.1]
  refine r12_copyTable (u := eS l j + 1) (r := 9) (nI_1 _) rfl (by omega) (by decide) (by omega) (hG.2.1 _ (by omega)) (fun μ1 a1 t1 => ?_)
  have G1 := hG.K hκ (a1.K (by decide))
  unfold brP at q1 q2
  refine r12_doOrder (r := 9) rfl rfl ho ws G1.1 (by decide) t1 (fun e μ2 a2 t2 => ?_) (fun e μ2 a2 => ?_)
  · have hod := od_wf (so := so) (o := o) ws hn
    have A2 : agR 9 μ μ2 := a1.tr a2
    have G2 := hG.K hκ (A2.K (by decide))
    have R2 := G2.2.2.2.1 j hj
    have q := hod.2.1
    refine brnF (by rw [show (-1000000 : Int32) = nONE from rfl]; exact (by simp (disch := first | omega | (simp (disch := omega) only [nI_toInt, Int32.reduceToInt, i_sub, i_add, i_mul]; omega)) only [iNONE, i_lt, i_le, i_eq, i_in, nI_toInt, Int32.reduceToInt, i_sub, i_add, i_mul]; omega)) ?_
    refine brnT rfl ?_
    refine And.intro (by simp (disch := first | omega | (simp (disch := omega) only [nI_toInt, Int32.reduceToInt, i_sub, i_add, i_mul]; omega)) only [iNONE, i_lt, i_le, i_eq, i_in, nI_toInt, Int32.reduceToInt, i_sub, i_add, i_mul]; omega) ?_
    rw [nI_clamp (by omega), R2.2.1]
    refine r12_isSame (u := 9) (r := eE l j + 1) rfl (nI_1 _) (by decide) (by omega) hod.1 we hn t2 (G2.2.1 _ (by omega)) (fun e2 => ?_) (fun e2 => ?_)
    · refine brF (by decide) ?_
      refine And.intro (by simp (disch := first | omega | (simp (disch := omega) only [nI_toInt, Int32.reduceToInt, i_sub, i_add, i_mul]; omega)) only [iNONE, i_lt, i_le, i_eq, i_in, nI_toInt, Int32.reduceToInt, i_sub, i_add, i_mul]; omega) ?_
      rw [nI_clamp (by omega), R2.2.2.1]
      by_cases e3 : eO l j = 1
      · refine brF (by rw [e3]; decide) ?_
        exact ⟨Or.inr rfl, q1 (by rw [if_pos e3]; exact ⟨e, e2⟩) μ2 A2⟩
      · refine brT (by rw [show eO l j = 0 by omega]; rfl) ?_
        refine brnF (by decide) ?_
        exact ⟨Or.inl rfl, q2 (by rw [if_neg e3]; exact fun z => z ⟨e, e2⟩) μ2 A2⟩
    · refine brT rfl ?_
      refine And.intro (by simp (disch := first | omega | (simp (disch := omega) only [nI_toInt, Int32.reduceToInt, i_sub, i_add, i_mul]; omega)) only [iNONE, i_lt, i_le, i_eq, i_in, nI_toInt, Int32.reduceToInt, i_sub, i_add, i_mul]; omega) ?_
      rw [nI_clamp (by omega), R2.2.2.1]
      by_cases e3 : eO l j = 1
      · refine brF (by rw [e3]; decide) ?_
        exact ⟨Or.inl rfl, q2 (by rw [if_pos e3]; exact fun z => e2 z.2) μ2 A2⟩
      · refine brT (by rw [show eO l j = 0 by omega]; rfl) ?_
        refine brnT rfl ?_
        exact ⟨Or.inr rfl, q1 (by rw [if_neg e3]; exact fun z => e2 z.2) μ2 A2⟩
  · have A2 : agR 9 μ μ2 := a1.tr a2
    have G2 := hG.K hκ (A2.K (by decide))
    have R2 := G2.2.2.2.1 j hj
    refine brnT rfl ?_
    refine brnF (by decide) ?_
    refine And.intro (by simp (disch := first | omega | (simp (disch := omega) only [nI_toInt, Int32.reduceToInt, i_sub, i_add, i_mul]; omega)) only [iNONE, i_lt, i_le, i_eq, i_in, nI_toInt, Int32.reduceToInt, i_sub, i_add, i_mul]; omega) ?_
    rw [nI_clamp (by omega), R2.2.2.1]
    by_cases e3 : eO l j = 1
    · refine brF (by rw [e3]; decide) ?_
      exact ⟨Or.inl rfl, q2 (by rw [if_pos e3]; exact fun z => z.1 e) μ2 A2⟩
    · refine brT (by rw [show eO l j = 0 by omega]; rfl) ?_
      refine brnT rfl ?_
      exact ⟨Or.inr rfl, q1 (by rw [if_neg e3]; exact fun z => z.1 e) μ2 A2⟩
theorem r12_isBarring (hx : x = nI j) (hy : y = nI o) (hκ : κ ≤ 8) (hw : ∀ t, t ≤ κ → wfT so n (tb t)) (hG : rfG μ n so wt κ tb l) (hW : lsW κ l) (hj : j < eN l) (ho : o < 96) (q1 : brP so n tb l j o → ∀ μ', agK μ μ' → Q 1 0 (0, 0) μ') (q2 : ¬ brP so n tb l j o → ∀ μ', agK μ μ' → Q 0 0 (0, 0) μ') : Call (d + 9) n12_isBarring [sR 41 0, sI x, sI y] μ Q :=
  r12_isBarring9 hx hy hκ hw hG hW hj ho (fun e μ' A => q1 e μ' (A.K (by decide))) (fun e μ' A => q2 e μ' (A.K (by decide)))
theorem bit_sd (hW : lsW κ l) (hj : j < eN l) : (nI (stB (eD l) (eN l)) >>> (nI j &&& 31)) &&& 1 = nI (eD l j) := by
  have hm := hW.1
  have hd : ∀ q, q < eN l → eD l q < 2 := fun q hq => (hW.2 q hq).2.2.2.2
  rw [bit_key j (by omega) _ (stB_256 hm hd), stB_bit hd j, if_pos hj]
theorem r12_barredBy9 (hx : x = nI o) (hz : z = nI (stB (eD l) (eN l))) (hκ : κ ≤ 8) (hw : ∀ t, t ≤ κ → wfT so n (tb t)) (hG : rfG μ n so wt κ tb l) (hW : lsW κ l) (ho : o < 96) (h : ∀ μ', agR 9 μ μ' → Q (p9 (fbT so n tb l o)) 0 (0, 0) μ') : Call (d + 10) n12_barredBy [sR 41 0, sI x, sI z] μ Q := by
  subst hx; subst hz
  have hm := hW.1
  refine call_go (cd := k12_barredBy) 2 rfl rfl ?_
  refine loopC (cd := k12_barredBy) (d := d + 9) (Q := Q) (eN l) (fun i ls μ' => ls = [some (sR 41 0), some (sI (nI o)), some (sI (nI (stB (eD l) (eN l)))), some (sI (nI i))] ∧ agR 9 μ μ' ∧ ∀ a, a < i → ¬ sbP so n tb l a o) 2 0 _ _ (Nat.zero_le _) ⟨rfl, agR.rf, fun a ha => absurd ha (Nat.not_lt_zero a)⟩ ?_
  rintro i ls μ1 hi ⟨rfl, A1, hp⟩ kk
  have G1 := hG.K hκ (A1.K (by decide))
  have L1 := G1.2.2.1
  refine run_go 4 ?_
  by_cases q : i = eN l
  · refine brT (by simp (disch := first | omega | (simp (disch := omega) only [nI_toInt, Int32.reduceToInt, i_sub, i_add, i_mul]; omega)) only [L1, iNONE, i_lt, i_le, i_eq, i_in, nI_toInt, Int32.reduceToInt, i_sub, i_add, i_mul]; omega) ?_
    refine run_go 10 ?_
    have h := h _ A1
    unfold fbT at h
    rw [fstN_no (P := fun j => sbP so n tb l j o) (fun a ha => hp a (by omega))] at h
    exact h
  · refine brF (by simp (disch := first | omega | (simp (disch := omega) only [nI_toInt, Int32.reduceToInt, i_sub, i_add, i_mul]; omega)) only [L1, iNONE, i_lt, i_le, i_eq, i_in, nI_toInt, Int32.reduceToInt, i_sub, i_add, i_mul]; omega) ?_
    have hi' : i < eN l := by omega
    have hd := (hW.2 i hi').2.2.2.2
    refine run_go 7 ?_
    by_cases e : eD l i = 1
    · refine brnT (by rw [bit_sd hW hi', e]; rfl) ?_
      refine run_go 5 ?_
      refine r12_isBarring9 rfl rfl hκ hw G1 hW hi' ho (fun e2 μ2 A2 => ?_) (fun e2 μ2 A2 => ?_)
      · refine brF (by decide) ?_
        refine run_go 10 ?_
        have h := h _ (A1.tr A2)
        unfold fbT at h
        rw [fstN_is (P := fun j => sbP so n tb l j o) ⟨e, e2⟩ hp hi' (by omega), p9_n (by omega)] at h
        exact h
      · refine brT rfl ?_
        refine run_go 2 ?_
        refine kk _ _ hi' ⟨by rw [← nI_1], A1.tr A2, fun a ha => ?_⟩
        by_cases e3 : a = i
        · subst e3; exact fun z => e2 z.2
        · exact hp a (by omega)
    · refine brnF (by rw [bit_sd hW hi', show eD l i = 0 by omega]; decide) ?_
      refine run_go 2 ?_
      refine kk _ _ hi' ⟨by rw [← nI_1], A1, fun a ha => ?_⟩
      by_cases e3 : a = i
      · subst e3; exact fun z => e z.1
      · exact hp a (by omega)
theorem r12_barredBy (hx : x = nI o) (hz : z = nI (stB (eD l) (eN l))) (hκ : κ ≤ 8) (hw : ∀ t, t ≤ κ → wfT so n (tb t)) (hG : rfG μ n so wt κ tb l) (hW : lsW κ l) (ho : o < 96) (h : ∀ μ', agK μ μ' → Q (p9 (fbT so n tb l o)) 0 (0, 0) μ') : Call (d + 10) n12_barredBy [sR 41 0, sI x, sI z] μ Q :=
  r12_barredBy9 hx hz hκ hw hG hW ho (fun μ' A => h μ' (A.K (by decide)))
theorem c7_learnI (hI : INV ξ μ) (h : ∀ (μ1 : sM) (n : Nat) (so wt : Nat → Nat) (κ : Nat) (tb : Nat → tT), tbG μ1 n so wt κ tb → lrG μ1 n so κ tb κ → oth μ1 κ ξ → INV ξ μ1 → Q 0 0 (0, 0) μ1) : Call (d + 7) n7_learn [sR 16 0] μ Q := by
  obtain ⟨n, so, wt, κ, tb, lr, h1, h2, h3⟩ := hI
  refine c7_learn h1 h2 (fun μ1 g1 g2 F => ?_)
  have g3 : oth μ1 κ ξ := h3.fr (F.sub (fun a i k z => by unfold fO fS fR fN fP fX fF fL at z; unfold fQ; omega))
  exact h μ1 n so wt κ tb g1 g2 g3 ⟨n, so, wt, κ, tb, κ, g1, g2, g3⟩
theorem rf_of (h1 : tbG μ n so wt κ tb) (g3 : lsR μ l) : rfG (m_i μ 41 0 0 0) n so wt κ tb l := by
  have g1 : tbG (m_i μ 41 0 0 0) n so wt κ tb := h1.fr (frm.rf.mi (by unfold fT; omega))
  exact ⟨g1.2.1, g1.2.2.2.2.2.2.2.2, g3.fr (frm.rf.mi (by unfold fLr; omega))⟩
theorem r12_standing2 (hW : lsW κ l) (hR : lsR μ l) (h : Q (nI (stB (eD l) (eN l))) 0 (0, 0) μ) : Call (d + 1) n12_standing [sR 41 0] μ Q := by
  have hm := hW.1
  refine call_go (cd := k12_standing) 4 rfl rfl ?_
  refine loopF (cd := k12_standing) (d := d) (Q := Q) (eN l) (fun i j => [some (sR 41 0), some (sI (nI (stB (eD l) i))), some (sI j)]) (fun _ => μ) 4 ?_ (fun i hi kk => ?_)
  · refine run_go 20 ?_
    refine brT (by simp (disch := first | omega | (simp (disch := omega) only [nI_toInt, Int32.reduceToInt, i_sub, i_add, i_mul]; omega)) only [hR.1, iNONE, i_lt, i_le, i_eq, i_in, nI_toInt, Int32.reduceToInt, i_sub, i_add, i_mul]; omega) ?_
    exact h
  · have h1 := (hW.2 i hi).2.2.2.2
    have h2 := (hR.2.1 i hi).2.2.2.2
    have h3 := stB_256 (f := eD l) (m := i) (by omega) (fun q hq => (hW.2 q (by omega)).2.2.2.2)
    have h4 := stB_lt (f := eD l) (m := i) (fun q hq => (hW.2 q (by omega)).2.2.2.2)
    rw [show stB (eD l) (i + 1) = stB (eD l) i + eD l i * 2 ^ i from rfl] at kk
    refine run_go 4 ?_
    refine brF (by simp (disch := first | omega | (simp (disch := omega) only [nI_toInt, Int32.reduceToInt, i_sub, i_add, i_mul]; omega)) only [hR.1, iNONE, i_lt, i_le, i_eq, i_in, nI_toInt, Int32.reduceToInt, i_sub, i_add, i_mul]; omega) ?_
    refine run_go 6 ?_
    refine And.intro (by simp (disch := first | omega | (simp (disch := omega) only [nI_toInt, Int32.reduceToInt, i_sub, i_add, i_mul]; omega)) only [iNONE, i_lt, i_le, i_eq, i_in, nI_toInt, Int32.reduceToInt, i_sub, i_add, i_mul]; omega) ?_
    rw [nI_clamp (by omega), h2]
    by_cases e : eD l i = 1
    · rw [e, Nat.one_mul, ← or_key i (by omega) _ h3 h4] at kk
      refine brT (by rw [e]; rfl) ?_
      refine run_go 7 ?_
      exact kk
    · rw [show eD l i = 0 by omega, Nat.zero_mul, Nat.add_zero, ← or_0 (nI (stB (eD l) i))] at kk
      refine brF (by rw [show eD l i = 0 by omega]; decide) ?_
      refine run_go 6 ?_
      exact kk
theorem op_barred (hI : INV ξ μ) (h : ∀ v μ', opQ ξ (d + 20) n12_barred [sR 41 0, sI x, sI y] v μ' → Q v 0 (0, 0) μ') : Call (d + 20) n11_barred [sR 0 0, sI x, sI y] μ Q := by
  by_cases hb : (∃ o, o < 96 ∧ x = nI o) ∧ ∃ a, a < 2 ∧ y = nI a
  · obtain ⟨⟨o, ho, rfl⟩, a, ha, rfl⟩ := hb
    refine call_go (cd := k11_barred) 60 rfl rfl ?_
    refine c11_isWithin (b := 96) rfl rfl (by omega) (by decide) (fun _ => ?_) (fun z => by omega)
    refine brF (by decide) ?_
    refine c11_isWithin (b := 2) rfl rfl (by omega) (by decide) (fun _ => ?_) (fun z => by omega)
    refine brnF (by decide) ?_
    refine c7_learnI hI (fun μ1 n so wt κ tb h1 h2 h3 hI1 => ?_)
    obtain ⟨l, g1, g2, g3⟩ := h3.lg
    have hm := g1.1
    have hκ := h1.2.2.1
    refine c10_firstThatBars rfl h1 h2 g1 g2 ho ?_
    have ref : ∀ (v : Int32) (Q : sQ), (fbT so n tb l o = 99 → v = nONE) → (fbT so n tb l o < eN l → v = if a = 0 then nI (fbT so n tb l o) else nI (eH l (fbT so n tb l o))) → (∀ μ', INV ξ μ' → Q v 0 (0, 0) μ') → Call (d + 20) n12_barred [sR 41 0, sI (nI o), sI (nI a)] μ1 Q := by
      intro v Q v1 v2 hq
      refine call_go (cd := k12_barred) 60 rfl rfl ?_
      refine r12_isOrder (fun _ _ _ => ?_) (fun q => by rw [nI_toInt (by omega)] at q; omega)
      refine brF (by decide) ?_
      refine r12_inN (b := 2) (by decide) (fun _ _ _ => ?_) (fun q => by rw [nI_toInt (by omega)] at q; omega)
      refine brnF (by decide) ?_
      refine r12_standing2 g1 (g3.fr (frm.rf.mi (by unfold fLr; omega))) ?_
      refine r12_barredBy rfl rfl hκ h1.2.2.2.2.2.1 (rf_of h1 g3) g1 ho (fun μ2 A2 => ?_)
      have hq := hq _ (hI1.th.K A2)
      have G2 := (rf_of h1 g3).K hκ A2
      rcases fstN_sp (P := fun j => sbP so n tb l j o) (n := eN l) (by omega) with ⟨e, _⟩ | ⟨e, _⟩
      · have e : fbT so n tb l o = 99 := e
        rw [v1 e] at hq
        rw [e]
        refine brnT rfl ?_
        exact hq
      · have e : fbT so n tb l o < eN l := e
        have v2 := v2 e
        rw [p9_n (by omega)]
        refine brnF (by rw [show (-1000000 : Int32) = nONE from rfl]; exact (by simp (disch := first | omega | (simp (disch := omega) only [nI_toInt, Int32.reduceToInt, i_sub, i_add, i_mul]; omega)) only [iNONE, i_lt, i_le, i_eq, i_in, nI_toInt, Int32.reduceToInt, i_sub, i_add, i_mul]; omega)) ?_
        rcases (by omega : a = 0 ∨ a = 1) with rfl | rfl
        · refine brnT rfl ?_
          rw [v2] at hq
          exact hq
        · refine brnF (by decide) ?_
          refine And.intro (by simp (disch := first | omega | (simp (disch := omega) only [nI_toInt, Int32.reduceToInt, i_sub, i_add, i_mul]; omega)) only [iNONE, i_lt, i_le, i_eq, i_in, nI_toInt, Int32.reduceToInt, i_sub, i_add, i_mul]; omega) ?_
          rw [nI_clamp (by omega), (G2.2.2.2.1 _ e).2.2.2.1]
          rw [v2] at hq
          exact hq
    rcases fstN_sp (P := fun j => sbP so n tb l j o) (n := eN l) (by omega) with ⟨e, _⟩ | ⟨e, _⟩
    · have e : fbT so n tb l o = 99 := e
      have h' := h nONE μ1 (fun Q hq => ref nONE Q (fun _ => rfl) (fun z => by omega) hq)
      rw [e]
      refine brT rfl ?_
      exact h'
    · have e : fbT so n tb l o < eN l := e
      rw [p9_n (by omega)]
      refine brF (by rw [show (-1000000 : Int32) = nONE from rfl]; exact (by simp (disch := first | omega | (simp (disch := omega) only [nI_toInt, Int32.reduceToInt, i_sub, i_add, i_mul]; omega)) only [iNONE, i_lt, i_le, i_eq, i_in, nI_toInt, Int32.reduceToInt, i_sub, i_add, i_mul]; omega)) ?_
      rcases (by omega : a = 0 ∨ a = 1) with rfl | rfl
      · refine brnT rfl ?_
        exact h _ _ (fun Q hq => ref _ Q (fun z => by omega) (fun _ => rfl) hq)
      · refine brnF (by decide) ?_
        refine call_go (cd := k10_teacherOf) 60 rfl rfl ?_
        refine c10_knows hm g2 (fun _ _ _ => ?_) (fun q => by rw [nI_toInt (by omega)] at q; omega)
        refine brF (by decide) ?_
        refine And.intro (by simp (disch := first | omega | (simp (disch := omega) only [nI_toInt, Int32.reduceToInt, i_sub, i_add, i_mul]; omega)) only [iNONE, i_lt, i_le, i_eq, i_in, nI_toInt, Int32.reduceToInt, i_sub, i_add, i_mul]; omega) ?_
        rw [nI_clamp (by omega), (g2.2 _ e).2.2.2.1]
        exact h _ _ (fun Q hq => ref _ Q (fun z => by omega) (fun _ => rfl) hq)
  · have hB : Q (-1000001) 0 (0, 0) μ := by
      refine h _ _ (fun Q hq => ?_)
      have hq' := hq _ hI.th
      refine call_go (cd := k12_barred) 60 rfl rfl ?_
      refine r12_isOrder (fun o ho e1 => ?_) (fun q => ?_)
      · refine brF (by decide) ?_
        refine r12_inN (b := 2) (by decide) (fun a ha e2 => absurd ⟨⟨o, ho, e1⟩, a, ha, e2⟩ hb) (fun q => ?_)
        refine brnT rfl ?_
        exact hq'
      · refine brT rfl ?_
        exact hq'
    refine call_go (cd := k11_barred) 60 rfl rfl ?_
    refine c11_within (b := 96) rfl (by decide) (fun o ho e1 => ?_) (fun _ => ?_)
    · refine brF (by decide) ?_
      refine c11_within (b := 2) rfl (by decide) (fun a ha e2 => absurd ⟨⟨o, ho, e1⟩, a, ha, e2⟩ hb) (fun _ => ?_)
      refine brnT rfl ?_
      exact hB
    · refine brT rfl ?_
      exact hB
end OP
