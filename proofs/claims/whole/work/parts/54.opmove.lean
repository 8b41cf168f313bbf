/-! what an arm can do; move -/
def rcB (r c : Nat) : Bool := decide ((nI r >>> (nI c &&& 31)) &&& 1 = 1)
theorem rc_key : ∀ r, r < 256 → ∀ a, a < 8 → ∀ b, b < 8 → decide (nI r &&& ((1 <<< (nI a &&& 31)) ||| (1 <<< (nI b &&& 31))) = ((1 <<< (nI a &&& 31)) ||| (1 <<< (nI b &&& 31)))) = (rcB r a && rcB r b) := by decide +kernel
/-- both ends are in reach -/
def rhT (T : tT) (r k a : Nat) : Prop := rcB r (ccT T k) = true ∧ rcB r (if a < 8 then a else ccT T (a - 8)) = true
def toT (so : Nat → Nat) (n a : Nat) : Prop := a < 8 ∨ 8 ≤ a ∧ a - 8 < n ∧ so (a - 8) = 2
section OP
variable {d n k c s a b r u o i rel κ lr t : Nat} {μ μ' : sM} {Q : sQ} {so wt rc : Nat → Nat} {T T' : tT} {tb : Nat → tT} {x y z w v : Int32} {ξ : Nat → Nat → Int32}
theorem c0_reachBoth (hx : x = nI a) (hy : y = nI b) (hz : z = nI c) (ha : a < 2) (hb : b < 8) (hc : c < 8) (hr : μ.1 15 0 a = nI r) (hr' : r < 256) (h1 : rcB r b = true ∧ rcB r c = true → Q 1 0 (0, 0) μ) (h2 : ¬ (rcB r b = true ∧ rcB r c = true) → Q 0 0 (0, 0) μ) : Call (d + 2) n0_reachBoth [sR 14 0, sI x, sI y, sI z] μ Q := by
  subst hx; subst hy; subst hz
  have key := rc_key r hr' b hb c hc
  refine call_go (cd := k0_reachBoth) 60 rfl rfl ?_
  refine c11_isWithin (b := 2) rfl rfl (by omega) (by decide) (fun _ => ?_) (fun z => by omega)
  refine brF (by decide) ?_
  refine c11_isWithin (b := 8) rfl rfl (by omega) (by decide) (fun _ => ?_) (fun z => by omega)
  refine brF (by decide) ?_
  refine c11_isWithin (b := 8) rfl rfl (by omega) (by decide) (fun _ => ?_) (fun z => by omega)
  refine brnF (by decide) ?_
  refine And.intro (by simp (disch := first | omega | (simp (disch := omega) only [nI_toInt, Int32.reduceToInt, i_sub, i_add, i_mul]; omega)) only [iNONE, i_lt, i_le, i_eq, i_in, nI_toInt, Int32.reduceToInt, i_sub, i_add, i_mul]; omega) ?_
  rw [nI_clamp (by omega), hr]
  refine And.intro (fun e => ?_) (fun e => ?_)
  · rw [decide_eq_false e] at key
    refine ⟨Or.inl rfl, h2 (fun q => ?_)⟩
    rw [q.1, q.2] at key
    cases key
  · rw [decide_eq_true e] at key
    refine ⟨Or.inr rfl, h1 ?_⟩
    rw [← Bool.and_eq_true]
    exact key.symm
theorem c0_canDo (hx : x = nI b) (hy : y = nI k) (hz : z = nI a) (hb : b < 2) (hw : wfT so n T) (hS : stkC μ n so wt) (hT : tabC μ t n T) (hk : k < n) (ha : a < 14) (hr : μ.1 15 0 b = nI r) (hr' : r < 256) (h1 : cgT so n T k a ∧ rhT T r k a → Q 1 0 (0, 0) μ) (h2 : ¬ (cgT so n T k a ∧ rhT T r k a) → Q 0 0 (0, 0) μ) : Call (d + 5) n0_canDo [sR 14 0, sI x, sR 8 t, sI y, sI z] μ Q := by
  subst hx; subst hy; subst hz
  have hn := hS.2.1
  refine call_go (cd := k0_canDo) 60 rfl rfl ?_
  refine c9_canGo rfl rfl hw hS hT hk ha (fun e => ?_) (fun e => ?_)
  · refine brF (by decide) ?_
    refine c9_cellOf rfl hw hn hT hk ?_
    have hcc := wf_cc hw hk
    have e2 : a < 8 ∨ 8 ≤ a ∧ a - 8 < n ∧ zB T (a - 8) = 9 := by
      by_cases q : a < 8
      · exact Or.inl q
      · have q2 := e.2 (by omega)
        exact Or.inr ⟨by omega, q2.1, q2.2.2.2.1.1⟩
    have e3 : (if a < 8 then a else spT T (a - 8)) = if a < 8 then a else ccT T (a - 8) := by
      by_cases q : a < 8
      · rw [if_pos q, if_pos q]
      · have q2 : zB T (a - 8) = 9 := by omega
        rw [if_neg q, if_neg q]
        unfold spT ccT
        rw [if_pos q2, if_pos q2]
    have e4 : (if a < 8 then a else ccT T (a - 8)) < 8 := by
      by_cases q : a < 8
      · rw [if_pos q]; exact q
      · rw [if_neg q]; exact wf_cc hw (by omega)
    refine c9_cellAt rfl hw hn hT (by omega) ?_
    rw [e3]
    refine c0_reachBoth rfl rfl rfl hb hcc e4 hr hr' (fun q => ?_) (fun q => ?_)
    · refine brF (by decide) ?_
      exact ⟨Or.inr rfl, h1 ⟨e, q⟩⟩
    · refine brT rfl ?_
      exact ⟨Or.inl rfl, h2 (fun z => q z.2)⟩
  · refine brT rfl ?_
    exact ⟨Or.inl rfl, h2 (fun z => e z.1)⟩
theorem r12_doesReach (hx : x = nI r) (hy : y = nI b) (hz : z = nI k) (hw' : w = nI a) (hb : b < 2) (hw : wfT so n T) (hS : stkR μ n so wt) (hr : r < 108) (hT : tabR μ r T) (hk : k < n) (ha : toT so n a) (hc : μ.1 45 0 b = nI c) (h1 : rhT T c k a → Q 1 0 (0, 0) μ) (h2 : ¬ rhT T c k a → Q 0 0 (0, 0) μ) : Call (d + 3) n12_doesReach [sR 41 0, sI x, sI y, sI z, sI w] μ Q := by
  subst hx; subst hy; subst hz; subst hw'
  have hn := hS.2.1
  have hcc := wf_cc hw hk
  unfold toT at ha
  have key : ∀ e : Nat, e = (if a < 8 then a else ccT T (a - 8)) → Run k12_doesReach (Call (d + 2)) Q 22 [some (sR 41 0), some (sI (nI r)), some (sI (nI b)), some (sI (nI k)), some (sI (nI a))] [sI (nI e)] μ := by
    intro e he
    unfold rhT at h1 h2
    rw [← he] at h1 h2
    refine run_go 40 ?_
    refine And.intro (by simp (disch := first | omega | (simp (disch := omega) only [nI_toInt, Int32.reduceToInt, i_sub, i_add, i_mul]; omega)) only [iNONE, i_lt, i_le, i_eq, i_in, nI_toInt, Int32.reduceToInt, i_sub, i_add, i_mul]; omega) ?_
    rw [nI_clamp (by omega), hc]
    refine r12_cellOf rfl rfl hw hn hr hT hk ?_
    refine And.intro (fun q => ?_) (fun q => ?_)
    · exact ⟨Or.inl rfl, h2 (fun z => q (of_decide_eq_true z.1))⟩
    · refine And.intro (by simp (disch := first | omega | (simp (disch := omega) only [nI_toInt, Int32.reduceToInt, i_sub, i_add, i_mul]; omega)) only [iNONE, i_lt, i_le, i_eq, i_in, nI_toInt, Int32.reduceToInt, i_sub, i_add, i_mul]; omega) ?_
      rw [nI_clamp (by omega), hc]
      refine And.intro (fun q2 => ?_) (fun q2 => ?_)
      · exact ⟨Or.inl rfl, h2 (fun z => q2 (of_decide_eq_true z.2))⟩
      · exact ⟨Or.inr rfl, h1 ⟨decide_eq_true q, decide_eq_true q2⟩⟩
  refine call_go (cd := k12_doesReach) 3 rfl rfl ?_
  by_cases q : a < 8
  · refine brF (by simp (disch := first | omega | (simp (disch := omega) only [nI_toInt, Int32.reduceToInt, i_sub, i_add, i_mul]; omega)) only [iNONE, i_lt, i_le, i_eq, i_in, nI_toInt, Int32.reduceToInt, i_sub, i_add, i_mul]; omega) ?_
    refine run_go 2 ?_
    exact key a (by rw [if_pos q])
  · refine brT (by simp (disch := first | omega | (simp (disch := omega) only [nI_toInt, Int32.reduceToInt, i_sub, i_add, i_mul]; omega)) only [iNONE, i_lt, i_le, i_eq, i_in, nI_toInt, Int32.reduceToInt, i_sub, i_add, i_mul]; omega) ?_
    refine run_go 6 ?_
    have e2 : nI a - 8 = nI (a - 8) := nI_sub (a := a) (b := 8) (by omega)
    refine r12_cellOf rfl e2 hw hn hr hT (by omega) ?_
    exact key _ (by rw [if_neg q])
theorem r12_isTo (hS : stkR μ n so wt) (h1 : ∀ a, a < 14 → toT so n a → z = nI a → Q 1 0 (0, 0) μ) (h2 : (∀ a, toT so n a → ¬ z = nI a) → Q 0 0 (0, 0) μ) : Call (d + 3) n12_isTo [sR 41 0, sI z] μ Q := by
  have hn := hS.2.1
  have rz := i_rng z
  refine call_go (cd := k12_isTo) 60 rfl rfl ?_
  refine r12_isCell (fun a ha e => ?_) (fun e => ?_)
  · refine brnF (by decide) ?_
    exact ⟨Or.inr rfl, h1 a (by omega) (Or.inl ha) e⟩
  · refine brnT rfl ?_
    refine r12_in (fun q => ?_) (fun q => ?_)
    · rw [j_of, show (8 : Int64).toInt = 8 from by decide, show (13 : Int64).toInt = 13 from by decide] at q
      obtain ⟨a, ha, rfl⟩ := nI_ofB (x := z) (b := 14) (by omega) (by omega)
      simp (disch := omega) only [nI_toInt] at q
      refine brF (by decide) ?_
      have e2 : nI a - 8 = nI (a - 8) := nI_sub (a := a) (b := 8) (by omega)
      refine r12_isThing hS (fun k hk e3 => ?_) (fun q2 => ?_)
      · rw [e2] at e3
        have e4 : a - 8 = k := (nI_eq (by omega) (by omega)).mp e3
        refine brF (by decide) ?_
        refine And.intro (by rw [e2]; exact vp_in_nI (by omega) (by decide)) ?_
        have h4 := hS.2.2 _ hk
        rw [e2, nI_clamp (by omega), e4, h4.1]
        by_cases e5 : so k = 2
        · refine brnT (by simp (disch := first | omega | (simp (disch := omega) only [nI_toInt, Int32.reduceToInt, i_sub, i_add, i_mul]; omega)) only [iNONE, i_lt, i_le, i_eq, i_in, nI_toInt, Int32.reduceToInt, i_sub, i_add, i_mul]; omega) ?_
          exact ⟨Or.inr rfl, h1 a ha (Or.inr ⟨by omega, by omega, by rw [e4]; exact e5⟩) rfl⟩
        · refine brnF (by simp (disch := first | omega | (simp (disch := omega) only [nI_toInt, Int32.reduceToInt, i_sub, i_add, i_mul]; omega)) only [iNONE, i_lt, i_le, i_eq, i_in, nI_toInt, Int32.reduceToInt, i_sub, i_add, i_mul]; omega) ?_
          refine ⟨Or.inl rfl, h2 (fun a' t' e' => e5 ?_)⟩
          have : a' = a := by
            unfold toT at t'
            exact ((nI_eq (by omega) (by omega)).mp e').symm
          subst this
          unfold toT at t'
          rw [← e4]
          omega
      · refine brT rfl ?_
        refine ⟨Or.inl rfl, h2 (fun a' t' e' => ?_)⟩
        unfold toT at t'
        have : a' = a := ((nI_eq (by omega) (by omega)).mp e').symm
        rw [e2, nI_toInt (by omega)] at q2
        omega
    · rw [j_of, show (8 : Int64).toInt = 8 from by decide, show (13 : Int64).toInt = 13 from by decide] at q
      refine brT rfl ?_
      refine ⟨Or.inl rfl, h2 (fun a' t' e' => ?_)⟩
      unfold toT at t'
      rw [e', nI_toInt (by omega)] at q e
      omega
/-- the three numbers name an arm, a thing and a goal -/
def okMv (so : Nat → Nat) (n : Nat) (x y z : Int32) : Prop := (∃ b, b < 2 ∧ x = nI b) ∧ (∃ k, k < n ∧ y = nI k) ∧ ∃ a, a < 14 ∧ toT so n a ∧ z = nI a
theorem c11_refusalOfMove (hw : wfT so n T) (hS : stkC μ n so wt) (hT : tabC μ 0 n T) (hr : ∀ a, a < 2 → rc a < 256 ∧ μ.1 15 0 a = nI (rc a)) (h1 : ¬ okMv so n x y z → Q (-1000001) 0 (0, 0) μ) (h2 : ∀ b k a, b < 2 → k < n → a < 14 → toT so n a → x = nI b → y = nI k → z = nI a → ¬ (cgT so n T k a ∧ rhT T (rc b) k a) → Q (-1000002) 0 (0, 0) μ) (h3 : ∀ b k a, b < 2 → k < n → a < 14 → toT so n a → x = nI b → y = nI k → z = nI a → cgT so n T k a ∧ rhT T (rc b) k a → Q 0 0 (0, 0) μ) : Call (d + 6) n11_refusalOfMove [sR 0 0, sI x, sI y, sI z] μ Q := by
  have hn := hS.2.1
  refine call_go (cd := k11_refusalOfMove) 60 rfl rfl ?_
  refine c11_within (b := 2) rfl (by decide) (fun b hb e1 => ?_) (fun e => ?_)
  · subst e1
    refine brF (by decide) ?_
    refine c8_knows hS (fun k hk e2 => ?_) (fun e => ?_)
    · subst e2
      refine brF (by decide) ?_
      refine c11_within (b := 14) rfl (by decide) (fun a ha e3 => ?_) (fun e => ?_)
      · subst e3
        refine brnF (by decide) ?_
        have key : toT so n a → Run k11_refusalOfMove (Call (d + 5)) Q 54 [some (sR 0 0), some (sI (nI b)), some (sI (nI k)), some (sI (nI a))] [] μ := by
          intro ht
          refine run_go 30 ?_
          refine c0_canDo rfl rfl rfl hb hw hS hT hk ha (hr b hb).2 (hr b hb).1 (fun e => ?_) (fun e => ?_)
          · refine brF (by decide) ?_
            exact h3 b k a hb hk ha ht rfl rfl rfl e
          · refine brT rfl ?_
            exact h2 b k a hb hk ha ht rfl rfl rfl e
        by_cases q : a < 8
        · refine brT (by simp (disch := first | omega | (simp (disch := omega) only [nI_toInt, Int32.reduceToInt, i_sub, i_add, i_mul]; omega)) only [iNONE, i_lt, i_le, i_eq, i_in, nI_toInt, Int32.reduceToInt, i_sub, i_add, i_mul]; omega) ?_
          exact seg_stop 44 (key (Or.inl q))
        · refine brF (by simp (disch := first | omega | (simp (disch := omega) only [nI_toInt, Int32.reduceToInt, i_sub, i_add, i_mul]; omega)) only [iNONE, i_lt, i_le, i_eq, i_in, nI_toInt, Int32.reduceToInt, i_sub, i_add, i_mul]; omega) ?_
          have e2 : nI a - 8 = nI (a - 8) := nI_sub (a := a) (b := 8) (by omega)
          refine c8_isBox e2 hS (by omega) (fun e => ?_) (fun e => ?_)
          · refine brnF (by decide) ?_
            exact seg_stop 37 (key (Or.inr ⟨by omega, e⟩))
          · refine brnT rfl ?_
            refine h1 (fun q2 => ?_)
            obtain ⟨_, _, a', ha', ht, e'⟩ := q2
            have : a' = a := ((nI_eq (by omega) (by omega)).mp e').symm
            subst this
            unfold toT at ht
            rcases ht with ht | ht
            · exact q ht
            · exact e ht.2
      · refine brnT rfl ?_
        refine h1 (fun q2 => ?_)
        obtain ⟨_, _, a', ha', ht, e'⟩ := q2
        rw [e', nI_toInt (by omega)] at e
        omega
    · refine brT rfl ?_
      refine h1 (fun q2 => ?_)
      obtain ⟨_, ⟨k, hk, e'⟩, _⟩ := q2
      rw [e', nI_toInt (by omega)] at e
      omega
  · refine brT rfl ?_
    refine h1 (fun q2 => ?_)
    obtain ⟨⟨b, hb, e'⟩, _⟩ := q2
    rw [e', nI_toInt (by omega)] at e
    omega
theorem op_move (hI : INV ξ μ) (h : ∀ v μ', opQ ξ (d + 20) n12_move [sR 41 0, sI x, sI y, sI z] v μ' → Q v 0 (0, 0) μ') : Call (d + 20) n11_move [sR 0 0, sI x, sI y, sI z] μ Q := by
  have hI0 := hI
  obtain ⟨n, so, wt, κ, tb, lr, h1, h2, h3⟩ := hI0
  have hw := h1.2.2.2.2.2.1 0 (Nat.zero_le _)
  have hC := h1.2.2.2.2.2.2.1
  have hR := h1.2.2.2.2.2.2.2.2 0 (Nat.zero_le _)
  have hn := h1.1.2.1
  obtain ⟨rc, hrc⟩ := h3.2.1
  refine call_go (cd := k11_move) 60 rfl rfl ?_
  refine c11_refusalOfMove hw h1.1 hC (fun a ha => ⟨(hrc a ha).1, (hrc a ha).2.1⟩) (fun e => ?_) (fun b k a hb hk ha ht e1 e2 e3 e => ?_) (fun b k a hb hk ha ht e1 e2 e3 e => ?_)
  · refine brF (by decide) ?_
    refine h _ _ (fun Q hq => ?_)
    have gS : stkR (m_i μ 41 0 0 0) n so wt := h1.2.1.f2 (frm.rf.mi (by unfold fU; omega))
    refine call_go (cd := k12_move) 60 rfl rfl ?_
    refine r12_isArm (fun b hb e1 => ?_) (fun _ => ?_)
    · refine brF (by decide) ?_
      refine r12_isThing gS (fun k hk e2 => ?_) (fun _ => ?_)
      · refine brF (by decide) ?_
        refine r12_isTo gS (fun a ha ht e3 => absurd ⟨⟨b, hb, e1⟩, ⟨k, hk, e2⟩, a, ha, ht, e3⟩ e) (fun _ => ?_)
        refine brnT rfl ?_
        exact hq _ hI.th
      · refine brT rfl ?_
        exact hq _ hI.th
    · refine brT rfl ?_
      exact hq _ hI.th
  · subst e1; subst e2; subst e3
    refine brF (by decide) ?_
    refine h _ _ (fun Q hq => ?_)
    have gS : stkR (m_i μ 41 0 0 0) n so wt := h1.2.1.f2 (frm.rf.mi (by unfold fU; omega))
    have gR : tabR (m_i μ 41 0 0 0) 0 (tb 0) := hR.f2 (frm.rf.mi (by unfold fU; omega))
    refine call_go (cd := k12_move) 60 rfl rfl ?_
    refine r12_isArm (fun _ _ _ => ?_) (fun q => by rw [nI_toInt (by omega)] at q; omega)
    refine brF (by decide) ?_
    refine r12_thingY gS hk ?_
    refine brF (by decide) ?_
    refine r12_isTo gS (fun _ _ _ _ => ?_) (fun q => absurd rfl (q a ht))
    refine brnF (by decide) ?_
    refine r12_canMove (r := 0) rfl rfl rfl hw gS (by decide) gR hk ht (fun q => ?_) (fun q => ?_)
    · refine brF (by decide) ?_
      refine r12_doesReach (r := 0) rfl rfl rfl rfl hb hw gS (by decide) gR hk ht ((mi_t (by decide)).trans (hrc b hb).2.2) (fun q2 => absurd ⟨q, q2⟩ e) (fun q2 => ?_)
      refine brnT rfl ?_
      exact hq _ hI.th
    · refine brT rfl ?_
      exact hq _ hI.th
  · subst e1; subst e2; subst e3
    refine brT rfl ?_
    have hg := cg_go hw e.1 ha
    refine c9_go rfl rfl hw hn hC hk hg.1 hg.2 (fun μ1 a1 t1 => ?_)
    refine h _ _ (fun Q hq => ?_)
    have e1 : frm fU μ (m_i μ1 41 0 0 0) := (fU.ag a1).mi (by unfold fU; omega)
    have gS : stkR (m_i μ1 41 0 0 0) n so wt := h1.2.1.f2 e1
    have gR : tabR (m_i μ1 41 0 0 0) 0 (tb 0) := hR.f2 e1
    refine call_go (cd := k12_move) 60 rfl rfl ?_
    refine r12_isArm (fun _ _ _ => ?_) (fun q => by rw [nI_toInt (by omega)] at q; omega)
    refine brF (by decide) ?_
    refine r12_thingY gS hk ?_
    refine brF (by decide) ?_
    refine r12_isTo gS (fun _ _ _ _ => ?_) (fun q => absurd rfl (q a ht))
    refine brnF (by decide) ?_
    refine r12_canMove (r := 0) rfl rfl rfl hw gS (by decide) gR hk ht (fun q => ?_) (fun q => absurd e.1 q)
    refine brF (by decide) ?_
    refine r12_doesReach (r := 0) rfl rfl rfl rfl hb hw gS (by decide) gR hk ht ((mi_t (by decide)).trans ((a1.1 45 0 b (by omega)).trans (hrc b hb).2.2)) (fun q2 => ?_) (fun q2 => absurd e.2 q2)
    refine brnF (by decide) ?_
    refine r12_doMove (r := 0) rfl rfl rfl hw hn (by decide) gR hk ha e.1 (fun μ2 a2 t2 => ?_)
    refine hq _ (inv_now h1 h2 h3 ?_ ?_ (wf_go hw hn hk ha e.1) ?_ t2)
    · exact (((frm.rf.agT a1 (fun a i k z => by unfold f_0 fT fO fS fR fN fP fX fF fL at z; omega)).mi (by unfold f_0 fT fO fS fR fN fP fX fF fL; omega)).agR a2 (fun a i k z => by unfold f_0 fT fO fS fR fN fP fX fF fL at z; omega))
    · rw [a2.2]; exact a1.2
    · exact t1.f2 ((frm.rf.mi (by unfold fV; omega)).tr (fV.ag a2))
end OP
