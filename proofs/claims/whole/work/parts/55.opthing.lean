/-! a thing comes -/
def fW (a _ _ : Nat) : Prop := ¬ (9 ≤ a ∧ a ≤ 12)
def fZ (a _ _ : Nat) : Prop := a ≠ 42
section OP
variable {d n k c s a b r u o i rel κ lr t : Nat} {μ μ' : sM} {Q : sQ} {so wt rc : Nat → Nat} {T T' : tT} {tb : Nat → tT} {x y z w v : Int32} {ξ : Nat → Nat → Int32}
theorem wf_new (hw : wfT so n T) (hn : n < 6) : wf1 (up1 so n s) (n + 1) T n := by
  refine ⟨fun c i hc hi => ?_, fun j hj hne hb => hw.2.1 j (by omega) hb, fun j hj hne hb => ?_, fun b hb hN => ?_, fun j hj => hw.2.2.2.2 j (by omega), by omega, (hw.2.2.2.2 n (Nat.le_refl n)).1⟩
  · have h := hw.1 c i hc hi
    exact ⟨by omega, by omega, h.2⟩
  · have h := hw.2.2.1 j (by omega) hb
    rw [up1_n (by omega), up1_n hne]
    exact ⟨by omega, h.2⟩
  · by_cases e : b = n
    · subst e; exact absurd (hw.2.2.2.2 b (Nat.le_refl b)).2 hN
    · have h := hw.2.2.2.1 b (by omega) hN
      exact ⟨by omega, by omega, h.2⟩
theorem tab_new (hT : tabC μ t n T) (hn : n < 6) : tab1 μ t (n + 1) T n := ⟨fun j hj hne => hT.1 j (by omega), fun j hj hj' => hT.2.1 j (by omega) hj', hT.2.2.1, hT.2.2.2⟩
theorem tabC.f3 (h : tabC μ t n T) (e : frm (fun a i _ => 9 ≤ a ∧ a ≤ 12 ∧ i = t) μ μ') : tabC μ' t n T := by
  refine ⟨fun k hk => ?_, fun k hk hk' => ?_, fun b hb => ?_, fun c hc => ?_⟩
  · rw [e 9 t k (by omega), e 10 t k (by omega)]; exact h.1 k hk
  · rw [e 9 t k (by omega), e 10 t k (by omega)]; exact h.2.1 k hk hk'
  · rw [e 11 t b (by omega)]; exact h.2.2.1 b hb
  · rw [e 12 t c (by omega)]; exact h.2.2.2 c hc
theorem c8_isFull (hS : stkC μ n so wt) (h1 : n = 6 → Q 1 0 (0, 0) μ) (h2 : n < 6 → Q 0 0 (0, 0) μ) : Call (d + 1) n8_isFull [sR 5 0] μ Q := by
  have hn := hS.2.1
  refine call_go (cd := k8_isFull) 30 rfl rfl ?_
  by_cases e : n = 6
  · refine brF (by simp (disch := first | omega | (simp (disch := omega) only [nI_toInt, Int32.reduceToInt, i_sub, i_add, i_mul]; omega)) only [hS.1, iNONE, i_lt, i_le, i_eq, i_in, nI_toInt, Int32.reduceToInt, i_sub, i_add, i_mul]; omega) ?_
    exact ⟨Or.inr rfl, h1 e⟩
  · refine brT (by simp (disch := first | omega | (simp (disch := omega) only [nI_toInt, Int32.reduceToInt, i_sub, i_add, i_mul]; omega)) only [hS.1, iNONE, i_lt, i_le, i_eq, i_in, nI_toInt, Int32.reduceToInt, i_sub, i_add, i_mul]; omega) ?_
    exact ⟨Or.inl rfl, h2 (by omega)⟩
theorem c8_add (hS : stkC μ n so wt) (hn : n < 6) (h : Q (nI n) 0 (0, 0) (m_i (m_i (m_i μ 6 0 n x) 7 0 n y) 5 0 2 (nI (n + 1)))) : Call (d + 2) n8_add [sR 5 0, sI x, sI y] μ Q := by
  refine call_go (cd := k8_add) 50 rfl rfl ?_
  refine c8_isFull hS (fun e => by omega) (fun _ => ?_)
  refine brT rfl ?_
  refine And.intro (by simp (disch := first | omega | (simp (disch := omega) only [nI_toInt, Int32.reduceToInt, i_sub, i_add, i_mul]; omega)) only [hS.1, iNONE, i_lt, i_le, i_eq, i_in, nI_toInt, Int32.reduceToInt, i_sub, i_add, i_mul]; omega) ?_
  rw [hS.1, nI_clamp (by omega)]
  refine And.intro (by rw [mi_t (by decide), hS.1]; exact vp_in_nI (by omega) (by decide)) ?_
  rw [mi_t (by decide), hS.1, nI_clamp (by omega)]
  have e : (m_i (m_i μ 6 0 n x) 7 0 n y).1 5 0 2 + 1 = nI (n + 1) := by rw [mi_t (by decide), mi_t (by decide), hS.1, nI_1]
  show Q ((m_i (m_i (m_i μ 6 0 n x) 7 0 n y) 5 0 2 ((m_i (m_i μ 6 0 n x) 7 0 n y).1 5 0 2 + 1)).1 5 0 2 - 1) 0 (0, 0) (m_i (m_i (m_i μ 6 0 n x) 7 0 n y) 5 0 2 ((m_i (m_i μ 6 0 n x) 7 0 n y).1 5 0 2 + 1))
  rw [e, mi_s, show (1 : Int32) = nI 1 from rfl, nI_sub (by omega), Nat.add_sub_cancel]
  exact h
theorem tabR.f4 (h : tabR μ r T) (e : frm (fun a _ _ => a = 42) μ μ') : tabR μ' r T := by
  refine ⟨fun c hc => ?_, fun c i hc hi => ?_, fun k hk => ?_⟩
  · rw [e 42 0 _ rfl]; exact h.1 c hc
  · rw [e 42 0 _ rfl]; exact h.2.1 c i hc hi
  · rw [e 42 0 _ rfl]; exact h.2.2 k hk
theorem c7_landOnAll (hκ : κ ≤ 8) (hk : μ.1 16 0 5 = nI κ) (e : n < 6) (hc : c < 8) (W : ∀ t, t ≤ κ → wf1 so (n + 1) (tb t) n) (Ck : ∀ k, k < κ → tabC μ (3 + k) n (tb (k + 1))) (h : ∀ μ2, frm fW μ μ2 → μ2.2 = μ.2 → frm (fun a i _ => 9 ≤ a ∧ a ≤ 12 ∧ i = 0) μ μ2 → (∀ k, k < κ → tabC μ2 (3 + k) (n + 1) (pcT (tb (k + 1)) n c)) → Q 0 0 (0, 0) (m_i μ2 16 0 6 0)) : Call (d + 3) n7_landOnAll [sR 16 0, sI (nI n), sI (nI c)] μ Q := by
  refine call_go (cd := k7_landOnAll) 2 rfl rfl ?_
  refine loopC (cd := k7_landOnAll) (d := d + 2) (Q := Q) κ (fun i ls μ' => ls = [some (sR 16 0), some (sI (nI n)), some (sI (nI c)), some (sI (nI i))] ∧ frm fW μ μ' ∧ μ'.2 = μ.2 ∧ frm (fun a i _ => 9 ≤ a ∧ a ≤ 12 ∧ i = 0) μ μ' ∧ (∀ k, k < i → tabC μ' (3 + k) (n + 1) (pcT (tb (k + 1)) n c)) ∧ ∀ k, i ≤ k → k < κ → tabC μ' (3 + k) n (tb (k + 1))) 2 0 _ _ (Nat.zero_le _) ⟨rfl, frm.rf, rfl, frm.rf, fun t ht => absurd ht (Nat.not_lt_zero t), fun k _ hk => Ck k hk⟩ ?_
  rintro i ls μ' hi ⟨rfl, hF, h2, h0, hD, hU⟩ kk
  have K1 : μ'.1 16 0 5 = nI κ := (hF 16 0 5 (by unfold fW; omega)).trans hk
  refine run_go 4 ?_
  by_cases q : i = κ
  · subst q
    refine brT (by simp (disch := first | omega | (simp (disch := omega) only [nI_toInt, Int32.reduceToInt, i_sub, i_add, i_mul]; omega)) only [K1, iNONE, i_lt, i_le, i_eq, i_in, nI_toInt, Int32.reduceToInt, i_sub, i_add, i_mul]; omega) ?_
    refine run_go 20 ?_
    exact h _ hF h2 h0 hD
  · refine brF (by simp (disch := first | omega | (simp (disch := omega) only [nI_toInt, Int32.reduceToInt, i_sub, i_add, i_mul]; omega)) only [K1, iNONE, i_lt, i_le, i_eq, i_in, nI_toInt, Int32.reduceToInt, i_sub, i_add, i_mul]; omega) ?_
    refine run_go 9 ?_
    refine And.intro (by simp (disch := first | omega | (simp (disch := omega) only [nI_toInt, Int32.reduceToInt, i_sub, i_add, i_mul]; omega)) only [iNONE, i_lt, i_le, i_eq, i_in, nI_toInt, Int32.reduceToInt, i_sub, i_add, i_mul]; omega) ?_
    rw [nI_clamp (by omega)]
    refine c9_land (a := c) rfl rfl (W (i + 1) (by omega)) (by omega) (tab_new (hU i (Nat.le_refl i) (by omega)) e) (Or.inl hc) (fun μ1 a1 t1 => ?_)
    rw [if_pos hc] at t1
    refine kk _ _ (by omega) ⟨by rw [← nI_1], hF.agT a1 (fun a i k z => by unfold fW at z; omega), a1.2.trans h2, h0.agT a1 (fun a i k z => by omega), fun k hk => ?_, fun k hk hk' => (hU k (by omega) hk').ag a1 (by omega)⟩
    by_cases q2 : k = i
    · subst q2; exact t1
    · exact (hD k (by omega)).ag a1 (by omega)
theorem op_thing (hI : INV ξ μ) (h : ∀ v μ', opQ ξ (d + 20) n12_thing [sR 41 0, sI x, sI y, sI z] v μ' → Q v 0 (0, 0) μ') : Call (d + 20) n11_thing [sR 0 0, sI x, sI y, sI z] μ Q := by
  have hI0 := hI
  obtain ⟨n, so, wt, κ, tb, lr, h1, h2, h3⟩ := hI0
  have hκ := h1.2.2.1
  have hn := h1.1.2.1
  have ry := i_rng y
  by_cases hb : (∃ s, s < 4 ∧ x = nI s) ∧ (1 ≤ y.toInt ∧ y.toInt ≤ 20) ∧ ∃ c, c < 8 ∧ z = nI c
  · obtain ⟨⟨s, hs, rfl⟩, hy, c, hc, rfl⟩ := hb
    obtain ⟨g, hg, rfl⟩ := nI_ofB (x := y) (b := 21) (by omega) (by omega)
    simp (disch := omega) only [nI_toInt] at hy
    refine call_go (cd := k11_thing) 60 rfl rfl ?_
    refine c11_isWithin (b := 4) rfl rfl (by omega) (by decide) (fun _ => ?_) (fun z => by omega)
    refine brF (by decide) ?_
    refine brF (by simp (disch := first | omega | (simp (disch := omega) only [nI_toInt, Int32.reduceToInt, i_sub, i_add, i_mul]; omega)) only [iNONE, i_lt, i_le, i_eq, i_in, nI_toInt, Int32.reduceToInt, i_sub, i_add, i_mul]; omega) ?_
    refine brF (by simp (disch := first | omega | (simp (disch := omega) only [nI_toInt, Int32.reduceToInt, i_sub, i_add, i_mul]; omega)) only [iNONE, i_lt, i_le, i_eq, i_in, nI_toInt, Int32.reduceToInt, i_sub, i_add, i_mul]; omega) ?_
    refine c11_isWithin (b := 8) rfl rfl (by omega) (by decide) (fun _ => ?_) (fun z => by omega)
    refine brnF (by decide) ?_
    refine c8_isFull h1.1 (fun e => ?_) (fun e => ?_)
    · refine brF (by decide) ?_
      refine h _ _ (fun Q hq => ?_)
      refine call_go (cd := k12_thing) 60 rfl rfl ?_
      refine r12_inN (b := 4) (by decide) (fun _ _ _ => ?_) (fun q => by rw [nI_toInt (by omega)] at q; omega)
      refine brF (by decide) ?_
      refine r12_in (fun _ => ?_) (fun e => absurd (by rw [j_of, show (1 : Int64).toInt = 1 from by decide, show (20 : Int64).toInt = 20 from by decide, nI_toInt (by omega)]; omega) e)
      refine brF (by decide) ?_
      refine r12_isCell (fun _ _ _ => ?_) (fun q => by rw [nI_toInt (by omega)] at q; omega)
      refine brnF (by decide) ?_
      refine brnT (show μ.1 41 0 3 = 6 from by rw [h1.2.1.1, e]; rfl) ?_
      exact hq _ hI.th
    · refine brT rfl ?_
      refine c8_add h1.1 e ?_
      have A0 : frm (fun a _ _ => ¬ (5 ≤ a ∧ a ≤ 7)) μ (m_i (m_i (m_i μ 6 0 n (nI s)) 7 0 n (nI g)) 5 0 2 (nI (n + 1))) := ((frm.rf.mi (by omega)).mi (by omega)).mi (by omega)
      have S0 : stkC (m_i (m_i (m_i μ 6 0 n (nI s)) 7 0 n (nI g)) 5 0 2 (nI (n + 1))) (n + 1) (up1 so n s) (up1 wt n g) := by
        refine ⟨mi_s, by omega, fun k hk => ?_⟩
        by_cases q : k = n
        · subst q
          rw [mi_t (by decide), mi_t (by decide), mi_s, mi_t (by decide), mi_s, up1_s, up1_s]
          exact ⟨rfl, rfl, hs, by omega⟩
        · rw [mi_t (by decide), mi_t (by decide), mi_k q, mi_t (by decide), mi_k q, mi_t (by decide), up1_n q, up1_n q]
          exact h1.1.2.2 k (by omega)
      generalize m_i (m_i (m_i μ 6 0 n (nI s)) 7 0 n (nI g)) 5 0 2 (nI (n + 1)) = M0 at A0 S0 ⊢
      have W : ∀ t, t ≤ κ → wf1 (up1 so n s) (n + 1) (tb t) n := fun t ht => wf_new (h1.2.2.2.2.2.1 t ht) e
      have W2 : ∀ t, t ≤ κ → wfT (up1 so n s) (n + 1) (pcT (tb t) n c) := fun t ht => wf_pc (W t ht) hc
      have C0 : tabC M0 0 n (tb 0) := h1.2.2.2.2.2.2.1.f3 (A0.sub (fun a i k z => by omega))
      have Ck : ∀ k, k < κ → tabC M0 (3 + k) n (tb (k + 1)) := fun k hk => (h1.2.2.2.2.2.2.2.1 k hk).f3 (A0.sub (fun a i k z => by omega))
      refine c9_land (a := c) rfl rfl (W 0 (Nat.zero_le _)) (by omega) (tab_new C0 e) (Or.inl hc) (fun μ1 a1 t1 => ?_)
      rw [if_pos hc] at t1
      have K1 : μ1.1 16 0 5 = nI κ := (a1.1 16 0 5 (by omega)).trans ((A0 16 0 5 (by omega)).trans h1.2.2.2.1)
      have fin : ∀ μ2, frm fW μ1 μ2 → μ2.2 = μ1.2 → tabC μ2 0 (n + 1) (pcT (tb 0) n c) → (∀ k, k < κ → tabC μ2 (3 + k) (n + 1) (pcT (tb (k + 1)) n c)) → Q (nI n) 0 (0, 0) (m_i μ2 16 0 6 0) := by
        intro μ2 F2 E2 T0 Tk
        refine h _ _ (fun Q hq => ?_)
        have A1 : frm (fun a _ k => ¬ (5 ≤ a ∧ a ≤ 12) ∧ ¬ (a = 16 ∧ k = 6) ∧ ¬ (a = 41 ∧ k = 0)) μ (m_i (m_i μ2 16 0 6 0) 41 0 0 0) := by
          intro a i k z
          rw [mi_n (by omega), mi_n (by omega), F2 a i k (by unfold fW; omega), a1.1 a i k (by omega)]
          exact A0 a i k (by omega)
        have N1 : (m_i (m_i μ2 16 0 6 0) 41 0 0 0).1 41 0 3 = nI n := (A1 41 0 3 (by omega)).trans h1.2.1.1
        refine call_go (cd := k12_thing) 9 rfl rfl ?_
        refine r12_inN (b := 4) (by decide) (fun _ _ _ => ?_) (fun q => by rw [nI_toInt (by omega)] at q; omega)
        refine brF (by decide) ?_
        refine run_go 6 ?_
        refine r12_in (fun _ => ?_) (fun e => absurd (by rw [j_of, show (1 : Int64).toInt = 1 from by decide, show (20 : Int64).toInt = 20 from by decide, nI_toInt (by omega)]; omega) e)
        refine brF (by decide) ?_
        refine run_go 3 ?_
        refine r12_isCell (fun _ _ _ => ?_) (fun q => by rw [nI_toInt (by omega)] at q; omega)
        refine brnF (by decide) ?_
        refine run_go 4 ?_
        refine brnF (by rw [N1]; exact (by simp (disch := first | omega | (simp (disch := omega) only [nI_toInt, Int32.reduceToInt, i_sub, i_add, i_mul]; omega)) only [iNONE, i_lt, i_le, i_eq, i_in, nI_toInt, Int32.reduceToInt, i_sub, i_add, i_mul]; omega)) ?_
        refine run_go 14 ?_
        refine And.intro (by rw [N1]; exact vp_in_nI (by omega) (by decide)) ?_
        refine And.intro (by rw [mi_t (by decide), N1]; exact vp_in_nI (by omega) (by decide)) ?_
        rw [N1, nI_clamp (by omega), mi_t (t := 43) (a := 41) (by decide), N1, nI_clamp (by omega)]
        have X0 : tabC (m_i (m_i μ2 16 0 6 0) 41 0 0 0) 0 (n + 1) (pcT (tb 0) n c) := T0.f2 ((frm.rf.mi (by unfold fV; omega)).mi (by unfold fV; omega))
        have Xk : ∀ k, k < κ → tabC (m_i (m_i μ2 16 0 6 0) 41 0 0 0) (3 + k) (n + 1) (pcT (tb (k + 1)) n c) := fun k hk => (Tk k hk).f2 ((frm.rf.mi (by unfold fV; omega)).mi (by unfold fV; omega))
        have XS : stkC (m_i (m_i μ2 16 0 6 0) 41 0 0 0) (n + 1) (up1 so n s) (up1 wt n g) := by
          have q : frm (fun a _ _ => 5 ≤ a ∧ a ≤ 7) M0 (m_i (m_i μ2 16 0 6 0) 41 0 0 0) := fun a i k z => by
            rw [mi_n (by omega), mi_n (by omega), F2 a i k (by unfold fW; omega), a1.1 a i k (by omega)]
          refine ⟨?_, by omega, fun k hk => ?_⟩
          · rw [q 5 0 2 (by omega)]; exact S0.1
          · rw [q 6 0 k (by omega), q 7 0 k (by omega)]; exact S0.2.2 k hk
        have XL : (m_i (m_i μ2 16 0 6 0) 41 0 0 0).1 16 0 6 = 0 := (mi_t (by decide)).trans mi_s
        generalize m_i (m_i μ2 16 0 6 0) 41 0 0 0 = M1 at A1 N1 X0 Xk XS XL ⊢
        have R0 : ∀ t, t ≤ κ → tabR M1 t (tb t) := fun t ht => (h1.2.2.2.2.2.2.2.2 t ht).f4 (A1.sub (fun a i k z => by omega))
        refine loopC (cd := k12_thing) (d := d + 19) (Q := Q) (κ + 1) (fun i ls μ' => ls = [some (sR 41 0), some (sI (nI s)), some (sI (nI g)), some (sI (nI c)), some (sI (nI i))] ∧ frm fZ (m_i (m_i M1 43 0 n (nI s)) 44 0 n (nI g)) μ' ∧ (∀ t, t < i → tabR μ' t (pcT (tb t) n c)) ∧ ∀ t, i ≤ t → t ≤ κ → tabR μ' t (tb t)) 74 0 _ _ (Nat.zero_le _) ⟨rfl, frm.rf, fun t ht => absurd ht (Nat.not_lt_zero t), fun t _ ht => (R0 t ht).f4 ((frm.rf.mi (by omega)).mi (by omega))⟩ ?_
        rintro i ls μ' hi ⟨rfl, hF, hD, hU⟩ kk
        have Z : ∀ a i k, a ≠ 42 → a ≠ 43 → a ≠ 44 → μ'.1 a i k = M1.1 a i k := fun a i k z1 z2 z3 => by
          rw [hF a i k z1, mi_t z3, mi_t z2]
        have K1 : μ'.1 41 0 6 = nI κ := (Z 41 0 6 (by decide) (by decide) (by decide)).trans ((A1 41 0 6 (by omega)).trans h1.2.2.2.2.1)
        have N2 : μ'.1 41 0 3 = nI n := (Z 41 0 3 (by decide) (by decide) (by decide)).trans N1
        refine run_go 4 ?_
        by_cases q : i = κ + 1
        · subst q
          refine brT (by simp (disch := first | omega | (simp (disch := omega) only [nI_toInt, Int32.reduceToInt, i_sub, i_add, i_mul]; omega)) only [K1, iNONE, i_lt, i_le, i_eq, i_in, nI_toInt, Int32.reduceToInt, i_sub, i_add, i_mul]; omega) ?_
          refine run_go 30 ?_
          show Q ((m_i μ' 41 0 3 (μ'.1 41 0 3 + 1)).1 41 0 3 - 1) 0 (0, 0) (m_i μ' 41 0 3 (μ'.1 41 0 3 + 1))
          rw [N2, mi_s, nI_1, show (1 : Int32) = nI 1 from rfl, nI_sub (by omega), Nat.add_sub_cancel]
          have V : frm fV M1 (m_i μ' 41 0 3 (nI (n + 1))) := fun a i k z => by
            unfold fV at z
            rw [mi_t (by omega)]
            exact Z a i k (by omega) (by omega) (by omega)
          have V2 : frm (fun a _ _ => a = 42) μ' (m_i μ' 41 0 3 (nI (n + 1))) := frm.rf.mi (by omega)
          refine hq _ ⟨n + 1, up1 so n s, up1 wt n g, κ, fun t => pcT (tb t) n c, 0, ⟨XS.f2 V, ⟨mi_s, by omega, fun k hk => ?_⟩, hκ, ?_, (mi_k (by decide)).trans K1, W2, X0.f2 V, fun k hk => (Xk k hk).f2 V, fun t ht => (hD t (by omega)).f4 V2⟩, ⟨Nat.zero_le _, ?_, fun k hk => absurd hk (Nat.not_lt_zero k)⟩, h3.fr ?_⟩
          · rw [mi_t (by decide), mi_t (by decide), hF 43 0 k (by unfold fZ; omega), hF 44 0 k (by unfold fZ; omega)]
            by_cases q : k = n
            · subst q
              rw [mi_t (by decide), mi_s, mi_s, up1_s, up1_s]
              exact ⟨rfl, rfl, hs, by omega⟩
            · rw [mi_t (by decide), mi_k q, mi_k q, mi_t (by decide), up1_n q, up1_n q, A1 43 0 k (by omega), A1 44 0 k (by omega)]
              exact h1.2.1.2.2 k (by omega)
          · rw [mi_t (by decide), Z 16 0 5 (by decide) (by decide) (by decide), A1 16 0 5 (by omega)]; exact h1.2.2.2.1
          · rw [mi_t (by decide), Z 16 0 6 (by decide) (by decide) (by decide)]; exact XL
          · intro a i k z
            have z1 : ¬ (a = 41 ∧ (k = 0 ∨ k = 3)) ∧ a ≠ 42 ∧ a ≠ 43 ∧ a ≠ 44 ∧ ¬ (5 ≤ a ∧ a ≤ 12) ∧ ¬ (a = 16 ∧ k = 6) := by unfold fO fS fR fN fP fX fF fL at z; omega
            rw [mi_n (by omega), Z a i k (by omega) (by omega) (by omega)]
            exact A1 a i k (by omega)
        · refine brF (by simp (disch := first | omega | (simp (disch := omega) only [nI_toInt, Int32.reduceToInt, i_sub, i_add, i_mul]; omega)) only [K1, iNONE, i_lt, i_le, i_eq, i_in, nI_toInt, Int32.reduceToInt, i_sub, i_add, i_mul]; omega) ?_
          refine run_go 8 ?_
          have hz := wf_size (h1.2.2.2.2.2.1 i (by omega)) hc
          refine r12_putOn rfl N2 rfl (by omega) (hU i (Nat.le_refl i) (by omega)) hc (by omega) (fun μ3 a3 t3 => ?_)
          refine kk _ _ (by omega) ⟨by rw [← nI_1], fun a i k z => ?_, fun t ht => ?_, fun t ht ht' => (hU t (by omega) ht').ag a3 (by omega)⟩
          · unfold fZ at z
            rw [a3.1 a i k (by omega)]
            exact hF a i k z
          · by_cases q2 : t = i
            · subst q2; exact t3
            · exact (hD t (by omega)).ag a3 q2
      refine c7_landOnAll hκ K1 e hc W (fun k hk => (Ck k hk).ag a1 (by omega)) (fun μ2 F2 E2 F0 Tk => ?_)
      exact fin μ2 F2 E2 (t1.f3 F0) Tk
  · have hB : Q (-1000001) 0 (0, 0) μ := by
      refine h _ _ (fun Q hq => ?_)
      have hq' := hq _ hI.th
      refine call_go (cd := k12_thing) 60 rfl rfl ?_
      refine r12_inN (b := 4) (by decide) (fun s hs e1 => ?_) (fun _ => ?_)
      · refine brF (by decide) ?_
        refine r12_in (fun q => ?_) (fun _ => ?_)
        · rw [j_of, show (1 : Int64).toInt = 1 from by decide, show (20 : Int64).toInt = 20 from by decide] at q
          refine brF (by decide) ?_
          refine r12_isCell (fun c hc e3 => absurd ⟨⟨s, hs, e1⟩, q, c, hc, e3⟩ hb) (fun _ => ?_)
          refine brnT rfl ?_
          exact hq'
        · refine brT rfl ?_
          exact hq'
      · refine brT rfl ?_
        exact hq'
    refine call_go (cd := k11_thing) 60 rfl rfl ?_
    refine c11_within (b := 4) rfl (by decide) (fun s hs e1 => ?_) (fun _ => ?_)
    · refine brF (by decide) ?_
      by_cases c1 : y.toInt < 1
      · refine brT (by simp (disch := first | omega | (simp (disch := omega) only [nI_toInt, Int32.reduceToInt, i_sub, i_add, i_mul]; omega)) only [iNONE, i_lt, i_le, i_eq, i_in, nI_toInt, Int32.reduceToInt, i_sub, i_add, i_mul]; omega) ?_
        exact hB
      · refine brF (by simp (disch := first | omega | (simp (disch := omega) only [nI_toInt, Int32.reduceToInt, i_sub, i_add, i_mul]; omega)) only [iNONE, i_lt, i_le, i_eq, i_in, nI_toInt, Int32.reduceToInt, i_sub, i_add, i_mul]; omega) ?_
        by_cases c2 : 20 < y.toInt
        · refine brT (by simp (disch := first | omega | (simp (disch := omega) only [nI_toInt, Int32.reduceToInt, i_sub, i_add, i_mul]; omega)) only [iNONE, i_lt, i_le, i_eq, i_in, nI_toInt, Int32.reduceToInt, i_sub, i_add, i_mul]; omega) ?_
          exact hB
        · refine brF (by simp (disch := first | omega | (simp (disch := omega) only [nI_toInt, Int32.reduceToInt, i_sub, i_add, i_mul]; omega)) only [iNONE, i_lt, i_le, i_eq, i_in, nI_toInt, Int32.reduceToInt, i_sub, i_add, i_mul]; omega) ?_
          refine c11_within (b := 8) rfl (by decide) (fun c hc e3 => absurd ⟨⟨s, hs, e1⟩, ⟨by omega, by omega⟩, c, hc, e3⟩ hb) (fun _ => ?_)
          refine brnT rfl ?_
          exact hB
    · refine brT rfl ?_
      exact hB
end OP
