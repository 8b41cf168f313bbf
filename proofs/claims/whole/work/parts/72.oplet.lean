/-! let -/
def ltC (a s : Nat) : Prop := s = a ∨ s < 8 ∧ a < 8 ∧ nb s a = true
def ltT (so : Nat → Nat) (n : Nat) (wt : Nat → Nat) (T : tT) (p w q : Nat → Nat) (nv k a m : Nat) : Prop := ∀ s, s < m → ltC a s → bkN so n wt (goT T k s) p w q nv = 0
theorem nb_sy : ∀ a, a < 8 → ∀ b, b < 8 → nb a b = nb b a := by decide
section OP
variable {d n k c s a b r u o i rel κ lr t j m nv : Nat} {μ μ' μ'' : sM} {Q : sQ} {so wt p w q rc : Nat → Nat} {T T' : tT} {tb : Nat → tT} {x y z v : Int32} {ξ : Nat → Nat → Int32}
theorem cg_any (h : cgT so n T k a) (hc : ltC a s) : cgT so n T k s := by
  rcases hc with e | e
  · rw [e]; exact h
  · exact ⟨h.1, fun z => by omega⟩
theorem c11_isLet (hw : wfT so n T) (hS : stkC μ n so wt) (hT : tabC μ 0 n T) (hR : ruC μ nv p w q) (hk : k < n) (ha : a < 14) (hg : cgT so n T k a) (h1 : ltT so n wt T p w q nv k a 14 → ∀ μ', agT 0 μ μ' → tabC μ' 0 n T → Q 1 0 (0, 0) μ') (h2 : ¬ ltT so n wt T p w q nv k a 14 → ∀ μ', agT 0 μ μ' → tabC μ' 0 n T → Q 0 0 (0, 0) μ') : Call (d + 7) n11_isLet [sR 0 0, sI (nI k), sI (nI a)] μ Q := by
  have hn := hS.2.1
  have hs := wf_spot hw hn hk
  refine call_go (cd := k11_isLet) 9 rfl rfl ?_
  refine c9_spotOf rfl (by omega) ?_
  rw [(hT.1 k hk).1]
  refine loopC (cd := k11_isLet) (d := d + 6) (Q := Q) 14 (fun i ls μ' => ls = [some (sR 0 0), some (sI (nI k)), some (sI (nI a)), some (sI (nI (spT T k))), some (sI 1), some (sI (nI i))] ∧ agT 0 μ μ' ∧ tabC μ' 0 n T ∧ ltT so n wt T p w q nv k a i) 15 0 _ _ (Nat.zero_le _) ⟨rfl, agT.rf, hT, fun s hs => absurd hs (Nat.not_lt_zero s)⟩ ?_
  rintro i ls μ1 hi ⟨rfl, A1, T1, L1⟩ kk
  refine run_go 3 ?_
  by_cases e : i = 14
  · subst e
    refine brT (by simp (disch := first | omega | (simp (disch := omega) only [nI_toInt, Int32.reduceToInt, i_sub, i_add, i_mul]; omega)) only [iNONE, i_lt, i_le, i_eq, i_in, nI_toInt, Int32.reduceToInt, i_sub, i_add, i_mul]; omega) ?_
    refine run_go 10 ?_
    exact ⟨Or.inr rfl, h1 L1 μ1 A1 T1⟩
  · refine brF (by simp (disch := first | omega | (simp (disch := omega) only [nI_toInt, Int32.reduceToInt, i_sub, i_add, i_mul]; omega)) only [iNONE, i_lt, i_le, i_eq, i_in, nI_toInt, Int32.reduceToInt, i_sub, i_add, i_mul]; omega) ?_
    have hi' : i < 14 := by omega
    refine run_go 2 ?_
    refine brF (by decide) ?_
    have no : ¬ ltC a i → Run k11_isLet (Call (d + 6)) Q 95 [some (sR 0 0), some (sI (nI k)), some (sI (nI a)), some (sI (nI (spT T k))), some (sI 1), some (sI (nI i))] [] μ1 := by
      intro z
      refine run_go 2 ?_
      refine kk _ _ hi' ⟨by rw [← nI_1 i], A1, T1, fun s hs hc => ?_⟩
      by_cases q2 : s = i
      · subst q2; exact absurd hc z
      · exact L1 s (by omega) hc
    have yes : ltC a i → Run k11_isLet (Call (d + 6)) Q 55 [some (sR 0 0), some (sI (nI k)), some (sI (nI a)), some (sI (nI (spT T k))), some (sI 1), some (sI (nI i))] [] μ1 := by
      intro hc
      have hgi := cg_any hg hc
      have hG := cg_go hw hgi hi'
      have hH := go_home hw hn hk hi' hgi
      have hw' := wf_go hw hn hk hi' hgi
      have bl := bk_le (so := so) (n := n) (wt := wt) (T := goT T k i) (p := p) (w := w) (q := q) nv
      have hv := hR.1
      refine run_go 11 ?_
      refine c9_go rfl rfl hw hn T1 hk hG.1 hG.2 (fun μ2 a2 t2 => ?_)
      have A2 := A1.tr a2
      refine c5_brokenOn hw' (hS.ag A2) t2 (hR.ag (frm.rf.agT A2 (fun a i k z => by unfold fN at z; omega))) ?_
      by_cases e0 : bkN so n wt (goT T k i) p w q nv = 0
      · refine brnT (by rw [e0]; rfl) ?_
        refine run_go 10 ?_
        refine c9_go rfl rfl hw' hn t2 hk hH.1 hH.2.1 (fun μ3 a3 t3 => ?_)
        refine kk _ _ hi' ⟨by rw [← nI_1 i], A2.tr a3, t3.eq (hw.eq hH.2.2) (hH.2.2.sy hw), fun s hs hc' => ?_⟩
        by_cases q2 : s = i
        · subst q2; exact e0
        · exact L1 s (by omega) hc'
      · refine brnF (by simp (disch := first | omega | (simp (disch := omega) only [nI_toInt, Int32.reduceToInt, i_sub, i_add, i_mul]; omega)) only [iNONE, i_lt, i_le, i_eq, i_in, nI_toInt, Int32.reduceToInt, i_sub, i_add, i_mul]; omega) ?_
        refine run_go 9 ?_
        refine c9_go rfl rfl hw' hn t2 hk hH.1 hH.2.1 (fun μ3 a3 t3 => ?_)
        have hq := h2 (fun z => e0 (z i hi' hc)) μ3 (A2.tr a3) (t3.eq (hw.eq hH.2.2) (hH.2.2.sy hw))
        refine run_go 3 ?_
        rw [nI_1]
        by_cases e3 : i + 1 = 14
        · refine brT (by simp (disch := first | omega | (simp (disch := omega) only [nI_toInt, Int32.reduceToInt, i_sub, i_add, i_mul]; omega)) only [iNONE, i_lt, i_le, i_eq, i_in, nI_toInt, Int32.reduceToInt, i_sub, i_add, i_mul]; omega) ?_
          refine run_go 10 ?_
          exact ⟨Or.inl rfl, hq⟩
        · refine brF (by simp (disch := first | omega | (simp (disch := omega) only [nI_toInt, Int32.reduceToInt, i_sub, i_add, i_mul]; omega)) only [iNONE, i_lt, i_le, i_eq, i_in, nI_toInt, Int32.reduceToInt, i_sub, i_add, i_mul]; omega) ?_
          refine run_go 2 ?_
          refine brT rfl ?_
          refine run_go 10 ?_
          exact ⟨Or.inl rfl, hq⟩
    refine run_go 3 ?_
    by_cases e1 : i = a
    · refine brT (by rw [e1]) ?_
      exact yes (Or.inl e1)
    · refine brF (fun z => e1 ((nI_eq (by omega) (by omega)).mp z)) ?_
      refine run_go 3 ?_
      by_cases e2 : i < 8
      · refine brF (by simp (disch := first | omega | (simp (disch := omega) only [nI_toInt, Int32.reduceToInt, i_sub, i_add, i_mul]; omega)) only [iNONE, i_lt, i_le, i_eq, i_in, nI_toInt, Int32.reduceToInt, i_sub, i_add, i_mul]; omega) ?_
        refine run_go 3 ?_
        by_cases e3 : a < 8
        · refine brF (by simp (disch := first | omega | (simp (disch := omega) only [nI_toInt, Int32.reduceToInt, i_sub, i_add, i_mul]; omega)) only [iNONE, i_lt, i_le, i_eq, i_in, nI_toInt, Int32.reduceToInt, i_sub, i_add, i_mul]; omega) ?_
          refine run_go 4 ?_
          refine c11_areNeighbours rfl rfl e2 e3 (fun e4 => ?_) (fun e4 => ?_)
          · refine brF (by decide) ?_
            exact yes (Or.inr ⟨e2, e3, e4⟩)
          · refine brT rfl ?_
            refine no (fun z => ?_)
            rcases z with z | z
            · exact e1 z
            · rw [e4] at z; cases z.2.2
        · refine brT (by simp (disch := first | omega | (simp (disch := omega) only [nI_toInt, Int32.reduceToInt, i_sub, i_add, i_mul]; omega)) only [iNONE, i_lt, i_le, i_eq, i_in, nI_toInt, Int32.reduceToInt, i_sub, i_add, i_mul]; omega) ?_
          refine no (fun z => ?_)
          rcases z with z | z
          · exact e1 z
          · exact e3 z.2.1
      · refine brT (by simp (disch := first | omega | (simp (disch := omega) only [nI_toInt, Int32.reduceToInt, i_sub, i_add, i_mul]; omega)) only [iNONE, i_lt, i_le, i_eq, i_in, nI_toInt, Int32.reduceToInt, i_sub, i_add, i_mul]; omega) ?_
        refine no (fun z => ?_)
        rcases z with z | z
        · exact e1 z
        · exact e2 z.1
theorem r12_isSafeBehind (hw : wfT so n T) (hS : stkR μ n so wt) (hT : tabR μ 0 T) (hR : ruR μ nv p w q) (hk : k < n) (ha : a < 14) (hg : cgT so n T k a) (h1 : bkN so n wt (goT T k a) p w q nv = 0 → ∀ μ', agK μ μ' → Q 1 0 (0, 0) μ') (h2 : ¬ bkN so n wt (goT T k a) p w q nv = 0 → ∀ μ', agK μ μ' → Q 0 0 (0, 0) μ') : Call (d + 7) n12_isSafeBehind [sR 41 0, sI (nI k), sI (nI a)] μ Q := by
  have hn := hS.2.1
  have hv := hR.1
  have bl := bk_le (so := so) (n := n) (wt := wt) (T := goT T k a) (p := p) (w := w) (q := q) nv
  refine call_go (cd := k12_isSafeBehind) 40 rfl rfl ?_
  refine r12_copyTable (u := 0) (r := 9) rfl rfl (by decide) (by decide) (by decide) hT (fun μ1 a1 t1 => ?_)
  refine r12_doMove (r := 9) rfl rfl rfl hw hn (by decide) t1 hk ha hg (fun μ2 a2 t2 => ?_)
  have A2 : agK μ μ2 := (a1.K (by decide)).tr (a2.K (by decide))
  refine r12_brokenOn (r := 9) rfl (wf_go hw hn hk ha hg) (agK_stk hS A2) (by decide) t2 (hR.ag (fun a i k z => A2.1 a i k (by unfold fN at z; omega))) ?_
  by_cases e0 : bkN so n wt (goT T k a) p w q nv = 0
  · refine brnT (by rw [e0]; rfl) ?_
    exact ⟨Or.inr rfl, h1 e0 _ A2⟩
  · refine brnF (by simp (disch := first | omega | (simp (disch := omega) only [nI_toInt, Int32.reduceToInt, i_sub, i_add, i_mul]; omega)) only [iNONE, i_lt, i_le, i_eq, i_in, nI_toInt, Int32.reduceToInt, i_sub, i_add, i_mul]; omega) ?_
    exact ⟨Or.inl rfl, h2 e0 _ A2⟩
theorem op_let (hI : INV ξ μ) (h : ∀ v μ', opQ ξ (d + 20) n12_let [sR 41 0, sI x, sI y, sI z] v μ' → Q v 0 (0, 0) μ') : Call (d + 20) n11_let [sR 0 0, sI x, sI y, sI z] μ Q := by
  have hI0 := hI
  obtain ⟨n, so, wt, κ, tb, lr, h1, h2, h3⟩ := hI0
  have hw := h1.2.2.2.2.2.1 0 (Nat.zero_le _)
  have hC := h1.2.2.2.2.2.2.1
  have hR := h1.2.2.2.2.2.2.2.2 0 (Nat.zero_le _)
  have hn := h1.1.2.1
  obtain ⟨rc, hrc⟩ := h3.2.1
  obtain ⟨nv, p, w, q, hN⟩ := h3.2.2.1
  refine call_go (cd := k11_let) 60 rfl rfl ?_
  refine c11_refusalOfMove hw h1.1 hC (fun a ha => ⟨(hrc a ha).1, (hrc a ha).2.1⟩) (fun e => ?_) (fun b k a hb hk ha ht e1 e2 e3 e => ?_) (fun b k a hb hk ha ht e1 e2 e3 e => ?_)
  · refine brF (by decide) ?_
    refine h _ _ (fun Q hq => ?_)
    have gS : stkR (m_i μ 41 0 0 0) n so wt := h1.2.1.f2 (frm.rf.mi (by unfold fU; omega))
    refine call_go (cd := k12_let) 60 rfl rfl ?_
    refine r12_isArm (fun b hb e1 => ?_) (fun _ => ?_)
    · refine brF (by decide) ?_
      refine r12_isThing gS (fun k hk e2 => ?_) (fun _ => ?_)
      · refine brF (by decide) ?_
        refine r12_isTo gS (fun a ha ht e3 => absurd ⟨⟨b, hb, e1⟩, ⟨k, hk, e2⟩, a, ha, ht, e3⟩ e) (fun _ => ?_)
        refine brnT rfl ?_
        exact hq _ hI.th
      · refine brT rfl ?_
        exact hq _ hI.th
    · refine brT rfl ?_
      exact hq _ hI.th
  · subst e1; subst e2; subst e3
    refine brF (by decide) ?_
    refine h _ _ (fun Q hq => ?_)
    have gS : stkR (m_i μ 41 0 0 0) n so wt := h1.2.1.f2 (frm.rf.mi (by unfold fU; omega))
    have gR : tabR (m_i μ 41 0 0 0) 0 (tb 0) := hR.f2 (frm.rf.mi (by unfold fU; omega))
    refine call_go (cd := k12_let) 60 rfl rfl ?_
    refine r12_isArm (fun _ _ _ => ?_) (fun q => by rw [nI_toInt (by omega)] at q; omega)
    refine brF (by decide) ?_
    refine r12_thingY gS hk ?_
    refine brF (by decide) ?_
    refine r12_isTo gS (fun _ _ _ _ => ?_) (fun q => absurd rfl (q a ht))
    refine brnF (by decide) ?_
    refine r12_canMove (r := 0) rfl rfl rfl hw gS (by decide) gR hk ht (fun q => ?_) (fun q => ?_)
    · refine brF (by decide) ?_
      refine r12_doesReach (r := 0) rfl rfl rfl rfl hb hw gS (by decide) gR hk ht ((mi_t (by decide)).trans (hrc b hb).2.2) (fun q2 => absurd ⟨q, q2⟩ e) (fun q2 => ?_)
      refine brnT rfl ?_
      exact hq _ hI.th
    · refine brT rfl ?_
      exact hq _ hI.th
  · subst e1; subst e2; subst e3
    refine brT rfl ?_
    have ref : ∀ (v : Int32) (μ1 : sM), agT 0 μ μ1 → tabC μ1 0 n (tb 0) → (ltT so n wt (tb 0) p w q nv k a 14 → v = 1) → (¬ ltT so n wt (tb 0) p w q nv k a 14 → v = 0) → Q v 0 (0, 0) μ1 := by
      intro v μ1 a1 t1 v1 v0
      refine h _ _ (fun Q hq => ?_)
      have e1 : frm fU μ (m_i μ1 41 0 0 0) := (fU.ag a1).mi (by unfold fU; omega)
      have gS : stkR (m_i μ1 41 0 0 0) n so wt := h1.2.1.f2 e1
      have gR : tabR (m_i μ1 41 0 0 0) 0 (tb 0) := hR.f2 e1
      have rR : ruR (m_i μ1 41 0 0 0) nv p w q := hN.ru.2.ag ((frm.rf.agT a1 (fun a i k z => by unfold fN at z; omega)).mi (by unfold fN; omega))
      have done : ∀ μ2, agK (m_i μ1 41 0 0 0) μ2 → INV ξ μ2 := by
        intro μ2 A2
        refine inv_now h1 h2 h3 ?_ (A2.2.trans a1.2) hw ?_ (agK_tab0 gR A2)
        · intro a i k z
          rw [A2.1 a i k (by unfold f_0 fT fO fS fR fN fP fX fF fL at z; omega), mi_n (by unfold f_0 fT fO fS fR fN fP fX fF fL at z; omega)]
          exact a1.1 a i k (by have := z.2.1; omega)
        · refine t1.f2 (fun a i k z => ?_)
          unfold fV at z
          rw [A2.1 a i k (by omega), mi_n (by omega)]
      refine call_go (cd := k12_let) 6 rfl rfl ?_
      refine r12_isArm (fun _ _ _ => ?_) (fun q => by rw [nI_toInt (by omega)] at q; omega)
      refine brF (by decide) ?_
      refine run_go 4 ?_
      refine r12_thingY gS hk ?_
      refine brF (by decide) ?_
      refine run_go 4 ?_
      refine r12_isTo gS (fun _ _ _ _ => ?_) (fun q => absurd rfl (q a ht))
      refine brnF (by decide) ?_
      refine run_go 6 ?_
      refine r12_canMove (r := 0) rfl rfl rfl hw gS (by decide) gR hk ht (fun _ => ?_) (fun q => absurd e.1 q)
      refine brF (by decide) ?_
      refine run_go 7 ?_
      refine r12_doesReach (r := 0) rfl rfl rfl rfl hb hw gS (by decide) gR hk ht ((mi_t (by decide)).trans ((a1.1 45 0 b (by omega)).trans (hrc b hb).2.2)) (fun q2 => ?_) (fun q2 => absurd e.2 q2)
      refine brnF (by decide) ?_
      -- what is safe among the goal and its first c neighbours
      have loop : ∀ μ2, agK (m_i μ1 41 0 0 0) μ2 → Run k12_let (Call (d + 19)) Q 66 [some (sR 41 0), some (sI (nI b)), some (sI (nI k)), some (sI (nI a)), some (sI (nI (tB (bkN so n wt (goT (tb 0) k a) p w q nv = 0)))), some (sI 0)] [] μ2 := by
        intro μ2 A2
        have key : Run k12_let (Call (d + 19)) Q 66 [some (sR 41 0), some (sI (nI b)), some (sI (nI k)), some (sI (nI a)), some (sI (nI (tB (bkN so n wt (goT (tb 0) k a) p w q nv = 0 ∧ ∀ c, c < 0 → a < 8 → nb a c = true → bkN so n wt (goT (tb 0) k c) p w q nv = 0)))), some (sI (nI 0))] [] μ2 := by
          refine loopC (cd := k12_let) (d := d + 19) (Q := Q) 8 (fun i ls μ' => ls = [some (sR 41 0), some (sI (nI b)), some (sI (nI k)), some (sI (nI a)), some (sI (nI (tB (bkN so n wt (goT (tb 0) k a) p w q nv = 0 ∧ ∀ c, c < i → a < 8 → nb a c = true → bkN so n wt (goT (tb 0) k c) p w q nv = 0)))), some (sI (nI i))] ∧ agK (m_i μ1 41 0 0 0) μ') 66 0 _ _ (Nat.zero_le _) ⟨rfl, A2⟩ ?_
          rintro i ls μ3 hi ⟨rfl, A3⟩ kk
          have hq := hq _ (done μ3 A3)
          have fin : (bkN so n wt (goT (tb 0) k a) p w q nv = 0 ∧ ∀ c, c < i → a < 8 → nb a c = true → bkN so n wt (goT (tb 0) k c) p w q nv = 0) = ltT so n wt (tb 0) p w q nv k a 14 → Run k12_let (Call (d + 19)) Q 116 [some (sR 41 0), some (sI (nI b)), some (sI (nI k)), some (sI (nI a)), some (sI (nI (tB (bkN so n wt (goT (tb 0) k a) p w q nv = 0 ∧ ∀ c, c < i → a < 8 → nb a c = true → bkN so n wt (goT (tb 0) k c) p w q nv = 0)))), some (sI (nI i))] [] μ3 := by
            intro he
            rw [he]
            refine run_go 10 ?_
            by_cases z : ltT so n wt (tb 0) p w q nv k a 14
            · rw [tB_t z]
              rw [v1 z] at hq
              refine brF (by decide) ?_
              exact hq
            · rw [tB_f z]
              rw [v0 z] at hq
              refine brT rfl ?_
              exact hq
          have eqv : (a < 8 → i = 8) → (bkN so n wt (goT (tb 0) k a) p w q nv = 0 ∧ ∀ c, c < i → a < 8 → nb a c = true → bkN so n wt (goT (tb 0) k c) p w q nv = 0) = ltT so n wt (tb 0) p w q nv k a 14 := by
            intro hai
            refine propext ⟨fun z s hs hc => ?_, fun z => ⟨z a ha (Or.inl rfl), fun c hc h8 hb => ?_⟩⟩
            · rcases hc with hc | hc
              · rw [hc]; exact z.1
              · exact z.2 s (by have := hai hc.2.1; omega) hc.2.1 (by rw [nb_sy a hc.2.1 s hc.1]; exact hc.2.2)
            · have := hai h8
              exact z c (by omega) (Or.inr ⟨by omega, h8, by rw [nb_sy c (by omega) a h8]; exact hb⟩)
          refine run_go 3 ?_
          by_cases q3 : i = 8
          · subst q3
            refine brT (by simp (disch := first | omega | (simp (disch := omega) only [nI_toInt, Int32.reduceToInt, i_sub, i_add, i_mul]; omega)) only [iNONE, i_lt, i_le, i_eq, i_in, nI_toInt, Int32.reduceToInt, i_sub, i_add, i_mul]; omega) ?_
            exact fin (eqv (fun _ => rfl))
          · refine brF (by simp (disch := first | omega | (simp (disch := omega) only [nI_toInt, Int32.reduceToInt, i_sub, i_add, i_mul]; omega)) only [iNONE, i_lt, i_le, i_eq, i_in, nI_toInt, Int32.reduceToInt, i_sub, i_add, i_mul]; omega) ?_
            refine run_go 3 ?_
            by_cases q4 : a < 8
            · refine brF (by simp (disch := first | omega | (simp (disch := omega) only [nI_toInt, Int32.reduceToInt, i_sub, i_add, i_mul]; omega)) only [iNONE, i_lt, i_le, i_eq, i_in, nI_toInt, Int32.reduceToInt, i_sub, i_add, i_mul]; omega) ?_
              have hi8 : i < 8 := by omega
              have kk3 := fun m A => kk [some (sR 41 0), some (sI (nI b)), some (sI (nI k)), some (sI (nI a)), some (sI (nI (tB (bkN so n wt (goT (tb 0) k a) p w q nv = 0 ∧ ∀ c, c < i + 1 → a < 8 → nb a c = true → bkN so n wt (goT (tb 0) k c) p w q nv = 0)))), some (sI (nI (i + 1)))] m hi8 ⟨rfl, A⟩
              rw [← nI_1 i] at kk3
              refine run_go 2 ?_
              by_cases z : bkN so n wt (goT (tb 0) k a) p w q nv = 0 ∧ ∀ c, c < i → a < 8 → nb a c = true → bkN so n wt (goT (tb 0) k c) p w q nv = 0
              · have stp : (bkN so n wt (goT (tb 0) k a) p w q nv = 0 ∧ ∀ c, c < i + 1 → a < 8 → nb a c = true → bkN so n wt (goT (tb 0) k c) p w q nv = 0) ↔ (nb a i = true → bkN so n wt (goT (tb 0) k i) p w q nv = 0) := by
                  refine ⟨fun w hb => w.2 i (by omega) q4 hb, fun w => ⟨z.1, fun c hc h8 hb => ?_⟩⟩
                  by_cases q5 : c = i
                  · subst q5; exact w hb
                  · exact z.2 c (by omega) h8 hb
                refine brF (by rw [tB_t z]; decide) ?_
                refine run_go 4 ?_
                refine r12_isNeighbour rfl rfl q4 hi8 (fun hb => ?_) (fun hb => ?_)
                · refine brF (by decide) ?_
                  refine run_go 5 ?_
                  have hgi : cgT so n (tb 0) k i := ⟨e.1.1, fun z => by omega⟩
                  refine r12_isSafeBehind hw (agK_stk gS A3) (agK_tab0 gR A3) (rR.ag (fun a i k z => A3.1 a i k (by unfold fN at z; omega))) hk (by omega) hgi (fun e5 μ4 A4 => ?_) (fun e5 μ4 A4 => ?_)
                  · rw [tB_t (stp.mpr (fun _ => e5))] at kk3
                    refine brF (by decide) ?_
                    refine run_go 5 ?_
                    exact kk3 _ (A3.tr A4)
                  · rw [tB_f (fun w => e5 (stp.mp w hb))] at kk3
                    refine brT rfl ?_
                    refine run_go 4 ?_
                    exact kk3 _ (A3.tr A4)
                · rw [tB_t (stp.mpr (fun w => by rw [hb] at w; cases w))] at kk3
                  refine brT rfl ?_
                  refine run_go 5 ?_
                  exact kk3 _ A3
              · refine brT (by rw [tB_f z]; rfl) ?_
                rw [tB_f (fun w => z ⟨w.1, fun c hc => w.2 c (by omega)⟩)] at kk3
                refine run_go 4 ?_
                exact kk3 _ A3
            · refine brT (by simp (disch := first | omega | (simp (disch := omega) only [nI_toInt, Int32.reduceToInt, i_sub, i_add, i_mul]; omega)) only [iNONE, i_lt, i_le, i_eq, i_in, nI_toInt, Int32.reduceToInt, i_sub, i_add, i_mul]; omega) ?_
              exact fin (eqv (fun z => absurd z q4))
        rw [show tB (bkN so n wt (goT (tb 0) k a) p w q nv = 0 ∧ ∀ c, c < 0 → a < 8 → nb a c = true → bkN so n wt (goT (tb 0) k c) p w q nv = 0) = tB (bkN so n wt (goT (tb 0) k a) p w q nv = 0) from by
          rw [show (bkN so n wt (goT (tb 0) k a) p w q nv = 0 ∧ ∀ c, c < 0 → a < 8 → nb a c = true → bkN so n wt (goT (tb 0) k c) p w q nv = 0) = (bkN so n wt (goT (tb 0) k a) p w q nv = 0) from propext ⟨fun z => z.1, fun z => ⟨z, fun c hc => absurd hc (Nat.not_lt_zero c)⟩⟩]] at key
        exact key
      refine run_go 7 ?_
      refine r12_isSafeBehind hw gS gR rR hk ha e.1 (fun e5 μ4 A4 => ?_) (fun e5 μ4 A4 => ?_)
      · have lp := loop μ4 A4
        rw [tB_t e5] at lp
        exact lp
      · have lp := loop μ4 A4
        rw [tB_f e5] at lp
        exact lp
    refine c11_isLet hw h1.1 hC hN.ru.1 hk ha e.1 (fun e5 μ1 a1 t1 => ?_) (fun e5 μ1 a1 t1 => ?_)
    · refine brF (by decide) ?_
      exact ref 1 μ1 a1 t1 (fun _ => rfl) (fun z => absurd e5 z)
    · refine brT rfl ?_
      exact ref 0 μ1 a1 t1 (fun z => absurd z e5) (fun _ => rfl)
end OP
