/-! calls that change the table that is now, or keep it -/
section OP
variable {d n k c s a b r u o i rel κ lr t : Nat} {μ μ' : sM} {Q : sQ} {so wt : Nat → Nat} {T T' : tT} {tb : Nat → tT} {x y z w v : Int32} {ξ : Nat → Nat → Int32}
/-- the reference's part of the tables; the class's -/
def fU (a _ k : Nat) : Prop := (a = 41 ∧ k = 3) ∨ a = 42 ∨ a = 43 ∨ a = 44
def fV (a _ _ : Nat) : Prop := 5 ≤ a ∧ a ≤ 12
theorem stkR.f2 (h : stkR μ n so wt) (e : frm fU μ μ') : stkR μ' n so wt := by
  refine ⟨?_, h.2.1, fun k hk => ?_⟩
  · rw [e 41 0 3 (by unfold fU; omega)]; exact h.1
  · rw [e 43 0 k (by unfold fU; omega), e 44 0 k (by unfold fU; omega)]; exact h.2.2 k hk
theorem tabR.f2 (h : tabR μ r T) (e : frm fU μ μ') : tabR μ' r T := by
  refine ⟨fun c hc => ?_, fun c i hc hi => ?_, fun k hk => ?_⟩
  · rw [e 42 0 _ (by unfold fU; omega)]; exact h.1 c hc
  · rw [e 42 0 _ (by unfold fU; omega)]; exact h.2.1 c i hc hi
  · rw [e 42 0 _ (by unfold fU; omega)]; exact h.2.2 k hk
theorem stkC.f2 (h : stkC μ n so wt) (e : frm fV μ μ') : stkC μ' n so wt := by
  refine ⟨?_, h.2.1, fun k hk => ?_⟩
  · rw [e 5 0 2 (by unfold fV; omega)]; exact h.1
  · rw [e 6 0 k (by unfold fV; omega), e 7 0 k (by unfold fV; omega)]; exact h.2.2 k hk
theorem tabC.f2 (h : tabC μ t n T) (e : frm fV μ μ') : tabC μ' t n T := by
  refine ⟨fun k hk => ?_, fun k hk hk' => ?_, fun b hb => ?_, fun c hc => ?_⟩
  · rw [e 9 t k (by unfold fV; omega), e 10 t k (by unfold fV; omega)]; exact h.1 k hk
  · rw [e 9 t k (by unfold fV; omega), e 10 t k (by unfold fV; omega)]; exact h.2.1 k hk hk'
  · rw [e 11 t b (by unfold fV; omega)]; exact h.2.2.1 b hb
  · rw [e 12 t c (by unfold fV; omega)]; exact h.2.2.2 c hc
theorem fU.ag (h : agT t μ μ') : frm fU μ μ' := frm.rf.agT h (fun a i k z => by unfold fU at z; omega)
theorem fV.ag (h : agR r μ μ') : frm fV μ μ' := frm.rf.agR h (fun a i k z => by unfold fV at z; omega)
/-- all but the table that is now -/
def f_0 (a i k : Nat) : Prop := (fT a i k ∨ fO a i k) ∧ ¬ (9 ≤ a ∧ a ≤ 12 ∧ i = 0) ∧ ¬ (a = 42 ∧ k < 62)
def up1 {α : Type} (f : Nat → α) (i : Nat) (x : α) : Nat → α := fun j => if j = i then x else f j
theorem up1_s {α : Type} {f : Nat → α} {i : Nat} {x : α} : up1 f i x i = x := if_pos rfl
theorem up1_n {α : Type} {f : Nat → α} {i j : Nat} {x : α} (h : j ≠ i) : up1 f i x j = f j := if_neg h
theorem inv_now (h1 : tbG μ n so wt κ tb) (h2 : lrG μ n so κ tb lr) (h3 : oth μ κ ξ) (e : frm f_0 μ μ') (e2 : μ'.2 = μ.2) (hw : wfT so n T') (hC : tabC μ' 0 n T') (hR : tabR μ' 0 T') : INV ξ μ' := by
  have hκ := h1.2.2.1
  refine ⟨n, so, wt, κ, up1 tb 0 T', lr, ⟨?_, ?_, hκ, ?_, ?_, ?_, by rw [up1_s]; exact hC, fun k hk => ?_, fun t ht => ?_⟩, ⟨h2.1, ?_, ?_⟩, h3.fr (e.sub (fun a i k z => ⟨Or.inr z, by unfold fO fS fR fN fP fX fF fL at z; omega, by unfold fO fS fR fN fP fX fF fL at z; omega⟩))⟩
  · refine ⟨?_, h1.1.2.1, fun k hk => ?_⟩
    · rw [e 5 0 2 (by unfold f_0 fT; omega)]; exact h1.1.1
    · rw [e 6 0 k (by unfold f_0 fT; omega), e 7 0 k (by unfold f_0 fT; omega)]; exact h1.1.2.2 k hk
  · refine ⟨?_, h1.1.2.1, fun k hk => ?_⟩
    · rw [e 41 0 3 (by unfold f_0 fT; omega)]; exact h1.2.1.1
    · rw [e 43 0 k (by unfold f_0 fT; omega), e 44 0 k (by unfold f_0 fT; omega)]; exact h1.2.1.2.2 k hk
  · rw [e 16 0 5 (by unfold f_0 fT; omega)]; exact h1.2.2.2.1
  · rw [e 41 0 6 (by unfold f_0 fT; omega)]; exact h1.2.2.2.2.1
  · intro t ht
    by_cases q : t = 0
    · subst q; rw [up1_s]; exact hw
    · rw [up1_n q]; exact h1.2.2.2.2.2.1 t ht
  · rw [up1_n (by omega)]
    have h := h1.2.2.2.2.2.2.2.1 k hk
    refine ⟨fun j hj => ?_, fun j hj hj' => ?_, fun b hb => ?_, fun c hc => ?_⟩
    · rw [e 9 _ j (by unfold f_0 fT; omega), e 10 _ j (by unfold f_0 fT; omega)]; exact h.1 j hj
    · rw [e 9 _ j (by unfold f_0 fT; omega), e 10 _ j (by unfold f_0 fT; omega)]; exact h.2.1 j hj hj'
    · rw [e 11 _ b (by unfold f_0 fT; omega)]; exact h.2.2.1 b hb
    · rw [e 12 _ c (by unfold f_0 fT; omega)]; exact h.2.2.2 c hc
  · by_cases q : t = 0
    · subst q; rw [up1_s]; exact hR
    · rw [up1_n q]
      have h := h1.2.2.2.2.2.2.2.2 t ht
      refine ⟨fun c hc => ?_, fun c i hc hi => ?_, fun k hk => ?_⟩
      · rw [e 42 0 _ (by unfold f_0 fT; omega)]; exact h.1 c hc
      · rw [e 42 0 _ (by unfold f_0 fT; omega)]; exact h.2.1 c i hc hi
      · rw [e 42 0 _ (by unfold f_0 fT; omega)]; exact h.2.2 k hk
  · rw [e 16 0 6 (by unfold f_0 fT; omega)]; exact h2.2.1
  · unfold caG
    rw [e2]
    intro k hk
    rw [up1_n (by omega)]
    exact h2.2.2 k hk
theorem op_order (hI : INV ξ μ) (h : ∀ v μ', opQ ξ (d + 20) n12_order [sR 41 0, sI x] v μ' → Q v 0 (0, 0) μ') : Call (d + 20) n11_order [sR 0 0, sI x] μ Q := by
  have hI0 := hI
  obtain ⟨n, so, wt, κ, tb, lr, h1, h2, h3⟩ := hI0
  have hw := h1.2.2.2.2.2.1 0 (Nat.zero_le _)
  have hC := h1.2.2.2.2.2.2.1
  have hR := h1.2.2.2.2.2.2.2.2 0 (Nat.zero_le _)
  have hn := h1.1.2.1
  refine call_go (cd := k11_order) 60 rfl rfl ?_
  refine c11_within (b := 96) rfl (by decide) (fun o ho e => ?_) (fun e => ?_)
  · subst e
    have hod := od_wf (so := so) (o := o) hw hn
    refine brnF (by decide) ?_
    refine c3_perform rfl ho hw h1.1 hC (fun e μ1 a1 t1 => ?_) (fun e μ1 a1 t1 => ?_)
    · have q1 := hod.2.1
      refine brnF (by simp (disch := first | omega | (simp (disch := omega) only [nI_toInt, Int32.reduceToInt, i_sub, i_add, i_mul]; omega)) only [iNONE, i_lt, i_le, i_eq, i_in, nI_toInt, Int32.reduceToInt, i_sub, i_add, i_mul]; omega) ?_
      refine h _ _ (fun Q hq => ?_)
      have e1 : frm fU μ (m_i μ1 41 0 0 0) := (fU.ag a1).mi (by unfold fU; omega)
      refine call_go (cd := k12_order) 60 rfl rfl ?_
      refine r12_isOrder (fun _ _ _ => ?_) (fun q => by rw [nI_toInt (by omega)] at q; omega)
      refine brnF (by decide) ?_
      refine r12_copyTable (u := 0) (r := 9) rfl rfl (by decide) (by decide) (by decide) (hR.f2 e1) (fun μ2 a2 t2 => ?_)
      refine r12_doOrder (r := 9) rfl rfl ho hw ((h1.2.1.f2 e1).ag a2) (by decide) t2 (fun _ μ3 a3 t3 => ?_) (fun q => absurd q e)
      refine brnF (by rw [show (-1000000 : Int32) = nONE from rfl]; exact (by simp (disch := first | omega | (simp (disch := omega) only [nI_toInt, Int32.reduceToInt, i_sub, i_add, i_mul]; omega)) only [iNONE, i_lt, i_le, i_eq, i_in, nI_toInt, Int32.reduceToInt, i_sub, i_add, i_mul]; omega)) ?_
      refine r12_copyTable (u := 9) (r := 0) rfl rfl (by decide) (by decide) (by decide) t3 (fun μ4 a4 t4 => ?_)
      refine hq _ (inv_now h1 h2 h3 ?_ ?_ hod.1 ?_ t4)
      · exact (((((frm.rf.agT a1 (fun a i k z => by unfold f_0 fT fO fS fR fN fP fX fF fL at z; omega)).mi (by unfold f_0 fT fO fS fR fN fP fX fF fL; omega)).agR a2 (fun a i k z => by unfold f_0 fT fO fS fR fN fP fX fF fL at z; omega)).agR a3 (fun a i k z => by unfold f_0 fT fO fS fR fN fP fX fF fL at z; omega)).agR a4 (fun a i k z => by unfold f_0 fT fO fS fR fN fP fX fF fL at z; omega))
      · rw [a4.2, a3.2, a2.2]; exact a1.2
      · exact t1.f2 ((((frm.rf.mi (by unfold fV; omega)).tr (fV.ag a2)).tr (fV.ag a3)).tr (fV.ag a4))
    · refine brnT rfl ?_
      refine h _ _ (fun Q hq => ?_)
      have e1 : frm fU μ (m_i μ1 41 0 0 0) := (fU.ag a1).mi (by unfold fU; omega)
      refine call_go (cd := k12_order) 60 rfl rfl ?_
      refine r12_isOrder (fun _ _ _ => ?_) (fun q => by rw [nI_toInt (by omega)] at q; omega)
      refine brnF (by decide) ?_
      refine r12_copyTable (u := 0) (r := 9) rfl rfl (by decide) (by decide) (by decide) (hR.f2 e1) (fun μ2 a2 t2 => ?_)
      refine r12_doOrder (r := 9) rfl rfl ho hw ((h1.2.1.f2 e1).ag a2) (by decide) t2 (fun q => absurd e q) (fun _ μ3 a3 => ?_)
      refine brnT rfl ?_
      refine hq _ (inv_now h1 h2 h3 ?_ ?_ hw ?_ ?_)
      · exact ((((frm.rf.agT a1 (fun a i k z => by unfold f_0 fT fO fS fR fN fP fX fF fL at z; omega)).mi (by unfold f_0 fT fO fS fR fN fP fX fF fL; omega)).agR a2 (fun a i k z => by unfold f_0 fT fO fS fR fN fP fX fF fL at z; omega)).agR a3 (fun a i k z => by unfold f_0 fT fO fS fR fN fP fX fF fL at z; omega))
      · rw [a3.2, a2.2]; exact a1.2
      · exact t1.f2 (((frm.rf.mi (by unfold fV; omega)).tr (fV.ag a2)).tr (fV.ag a3))
      · exact ((hR.f2 e1).ag a2 (by decide)).ag a3 (by decide)
  · refine brnT rfl ?_
    refine h _ _ (fun Q hq => ?_)
    refine call_go (cd := k12_order) 60 rfl rfl ?_
    refine r12_isOrder (fun o ho e2 => by subst e2; rw [nI_toInt (by omega)] at e; omega) (fun q => ?_)
    refine brnT rfl ?_
    exact hq _ hI.th
theorem op_back (hI : INV ξ μ) (h : ∀ v μ', opQ ξ (d + 20) n12_back [sR 41 0, sI x] v μ' → Q v 0 (0, 0) μ') : Call (d + 20) n11_back [sR 0 0, sI x] μ Q := by
  have hI0 := hI
  obtain ⟨n, so, wt, κ, tb, lr, h1, h2, h3⟩ := hI0
  have hκ := h1.2.2.1
  have hn := h1.1.2.1
  refine call_go (cd := k11_back) 60 rfl rfl ?_
  refine c7_has hκ h1.2.2.2.1 (fun k hk e => ?_) (fun e => ?_)
  · subst e
    have hw := h1.2.2.2.2.2.1 (k + 1) (by omega)
    have hC := h1.2.2.2.2.2.2.2.1 k hk
    have hR := h1.2.2.2.2.2.2.2.2 (k + 1) (by omega)
    refine brnF (by decide) ?_
    refine c7_tableAt hκ h1.2.2.2.1 (fun k' _ e => ?_) (fun q => by rw [nI_toInt (by omega)] at q; omega)
    have e' : k' = k := ((nI_eq (by omega) (by omega)).mp e).symm
    subst e'
    refine c9_takeOver (t := 0) (by omega) hC hn (fun μ1 a1 t1 => ?_)
    refine h _ _ (fun Q hq => ?_)
    have e1 : frm fU μ (m_i μ1 41 0 0 0) := (fU.ag a1).mi (by unfold fU; omega)
    refine call_go (cd := k12_back) 60 rfl rfl ?_
    refine r12_isKept hκ ((mi_k (by decide)).trans ((a1.1 41 0 6 (by omega)).trans h1.2.2.2.2.1)) (fun _ _ _ => ?_) (fun q => by rw [nI_toInt (by omega)] at q; omega)
    refine brnF (by decide) ?_
    refine r12_copyTable (u := k' + 1) (r := 0) (nI_1 k') rfl (by omega) (by decide) (by omega) (hR.f2 e1) (fun μ2 a2 t2 => ?_)
    refine hq _ (inv_now h1 h2 h3 ?_ ?_ hw ?_ t2)
    · exact (((frm.rf.agT a1 (fun a i k z => by unfold f_0 fT fO fS fR fN fP fX fF fL at z; omega)).mi (by unfold f_0 fT fO fS fR fN fP fX fF fL; omega)).agR a2 (fun a i k z => by unfold f_0 fT fO fS fR fN fP fX fF fL at z; omega))
    · rw [a2.2]; exact a1.2
    · exact t1.f2 ((frm.rf.mi (by unfold fV; omega)).tr (fV.ag a2))
  · refine brnT rfl ?_
    refine h _ _ (fun Q hq => ?_)
    have e1 : frm fU μ (m_i μ 41 0 0 0) := frm.rf.mi (by unfold fU; omega)
    refine call_go (cd := k12_back) 60 rfl rfl ?_
    refine r12_isKept hκ ((mi_k (by decide)).trans h1.2.2.2.2.1) (fun k hk e2 => by subst e2; rw [nI_toInt (by omega)] at e; omega) (fun q => ?_)
    refine brnT rfl ?_
    exact hq _ hI.th
theorem lsG.up {lm : Nat} {st en no te sd : Nat → Nat} (h : lsG μ κ lm st en no te sd) : lsG μ (κ + 1) lm st en no te sd := by
  refine ⟨h.1, h.2.1, h.2.2.1, fun l hl => ?_, h.2.2.2.2⟩
  have := h.2.2.2.1 l hl
  exact ⟨by omega, by omega, this.2.2⟩
theorem oth.up (h : oth μ κ ξ) : oth μ (κ + 1) ξ := by
  obtain ⟨h1, h2, h3, h4, h5, h6, ⟨lm, st, en, no, te, sd, h7⟩, h8⟩ := h
  exact ⟨h1, h2, h3, h4, h5, h6, ⟨lm, st, en, no, te, sd, h7.up⟩, h8⟩
theorem op_keep (hI : INV ξ μ) (h : ∀ v μ', opQ ξ (d + 20) n12_keep [sR 41 0] v μ' → Q v 0 (0, 0) μ') : Call (d + 20) n11_keep [sR 0 0] μ Q := by
  have hI0 := hI
  obtain ⟨n, so, wt, κ, tb, lr, h1, h2, h3⟩ := hI0
  have hκ := h1.2.2.1
  have hn := h1.1.2.1
  have hw := h1.2.2.2.2.2.1 0 (Nat.zero_le _)
  have hC := h1.2.2.2.2.2.2.1
  have hR := h1.2.2.2.2.2.2.2.2 0 (Nat.zero_le _)
  refine call_go (cd := k11_keep) 60 rfl rfl ?_
  refine call_go (cd := k7_isFull) 60 rfl rfl ?_
  by_cases e : κ = 8
  · refine brF (by simp (disch := first | omega | (simp (disch := omega) only [nI_toInt, Int32.reduceToInt, i_sub, i_add, i_mul]; omega)) only [h1.2.2.2.1, iNONE, i_lt, i_le, i_eq, i_in, nI_toInt, Int32.reduceToInt, i_sub, i_add, i_mul]; omega) ?_
    refine ⟨Or.inr rfl, ?_⟩
    refine brF (by decide) ?_
    refine h _ _ (fun Q hq => ?_)
    refine call_go (cd := k12_keep) 60 rfl rfl ?_
    refine brnT (show μ.1 41 0 6 = 8 from by rw [h1.2.2.2.2.1, e]; rfl) ?_
    exact hq _ hI.th
  · refine brT (by simp (disch := first | omega | (simp (disch := omega) only [nI_toInt, Int32.reduceToInt, i_sub, i_add, i_mul]; omega)) only [h1.2.2.2.1, iNONE, i_lt, i_le, i_eq, i_in, nI_toInt, Int32.reduceToInt, i_sub, i_add, i_mul]; omega) ?_
    refine ⟨Or.inl rfl, ?_⟩
    refine brT rfl ?_
    refine call_go (cd := k7_add) 60 rfl rfl ?_
    refine call_go (cd := k7_isFull) 60 rfl rfl ?_
    refine brT (by simp (disch := first | omega | (simp (disch := omega) only [nI_toInt, Int32.reduceToInt, i_sub, i_add, i_mul]; omega)) only [h1.2.2.2.1, iNONE, i_lt, i_le, i_eq, i_in, nI_toInt, Int32.reduceToInt, i_sub, i_add, i_mul]; omega) ?_
    refine ⟨Or.inl rfl, ?_⟩
    refine brT rfl ?_
    refine And.intro (by simp (disch := first | omega | (simp (disch := omega) only [nI_toInt, Int32.reduceToInt, i_sub, i_add, i_mul]; omega)) only [h1.2.2.2.1, iNONE, i_lt, i_le, i_eq, i_in, nI_toInt, Int32.reduceToInt, i_sub, i_add, i_mul]; omega) ?_
    rw [h1.2.2.2.1, nI_clamp (by omega)]
    refine c9_takeOver (t := 3 + κ) (by omega) hC hn (fun μ1 a1 t1 => ?_)
    refine h _ _ (fun Q hq => ?_)
    rw [mi_s, a1.1 16 0 5 (by omega), h1.2.2.2.1, nI_1, show (1 : Int32) = nI 1 from rfl, nI_sub (by omega), Nat.add_sub_cancel] at hq
    rw [a1.1 16 0 5 (by omega), h1.2.2.2.1, nI_1]
    have e1 : ∀ x, frm fU μ (m_i (m_i (m_i μ1 16 0 5 (nI (κ + 1))) 41 0 0 0) 41 0 6 x) := fun x => (((fU.ag a1).mi (by unfold fU; omega)).mi (by unfold fU; omega)).mi (by unfold fU; omega)
    have k1 : (m_i (m_i μ1 16 0 5 (nI (κ + 1))) 41 0 0 0).1 41 0 6 = nI κ := (mi_k (by decide)).trans ((mi_t (by decide)).trans ((a1.1 41 0 6 (by omega)).trans h1.2.2.2.2.1))
    refine call_go (cd := k12_keep) 60 rfl rfl ?_
    refine brnF (by rw [k1]; exact (by simp (disch := first | omega | (simp (disch := omega) only [nI_toInt, Int32.reduceToInt, i_sub, i_add, i_mul]; omega)) only [iNONE, i_lt, i_le, i_eq, i_in, nI_toInt, Int32.reduceToInt, i_sub, i_add, i_mul]; omega)) ?_
    refine r12_copyTable (u := 0) (r := κ + 1) rfl (by rw [mi_s, k1, nI_1]) (by decide) (by omega) (by omega) (hR.f2 (e1 _)) (fun μ2 a2 t2 => ?_)
    have k2 : μ2.1 41 0 6 = nI (κ + 1) := (a2.1 41 0 6 (by omega)).trans (by rw [mi_s, k1, nI_1])
    show Q (μ2.1 41 0 6 - 1) 0 (0, 0) μ2
    rw [k2, show (1 : Int32) = nI 1 from rfl, nI_sub (by omega), Nat.add_sub_cancel]
    have E : frm fV μ1 μ2 := (((frm.rf.mi (by unfold fV; omega)).mi (by unfold fV; omega)).mi (by unfold fV; omega)).tr (fV.ag a2)
    refine hq _ ⟨n, so, wt, κ + 1, up1 tb (κ + 1) (tb 0), lr, ⟨(h1.1.ag a1).f2 E, (h1.2.1.f2 (e1 _)).ag a2, by omega, ?_, k2, fun t ht => ?_, ?_, fun k hk => ?_, fun t ht => ?_⟩, ⟨by have := h2.1; omega, ?_, fun k hk => ?_⟩, ?_⟩
    · rw [a2.1 16 0 5 (by omega), mi_t (by decide), mi_t (by decide), mi_s]
    · by_cases q : t = κ + 1
      · subst q; rw [up1_s]; exact hw
      · rw [up1_n q]; exact h1.2.2.2.2.2.1 t (by omega)
    · rw [up1_n (by omega)]; exact (hC.ag a1 (by omega)).f2 E
    · by_cases q : k = κ
      · subst q; rw [up1_s]; exact t1.f2 E
      · rw [up1_n (by omega)]; exact ((h1.2.2.2.2.2.2.2.1 k (by omega)).ag a1 (by omega)).f2 E
    · by_cases q : t = κ + 1
      · subst q; rw [up1_s]; exact t2
      · rw [up1_n q]; exact ((h1.2.2.2.2.2.2.2.2 t (by omega)).f2 (e1 _)).ag a2 q
    · rw [a2.1 16 0 6 (by omega), mi_t (by decide), mi_t (by decide), mi_k (by decide), a1.1 16 0 6 (by omega)]; exact h2.2.1
    · have := h2.1
      rw [up1_n (by omega), a2.2]
      show μ1.2 18 k = _ ∧ ∀ o, o < 96 → μ1.2 19 (96 * k + o) = _
      rw [a1.2]
      exact h2.2.2 k hk
    · exact (h3.fr (((((frm.rf.agT a1 (fun a i k z => by unfold fO fS fR fN fP fX fF fL at z; omega)).mi (by unfold fO fS fR fN fP fX fF fL; omega)).mi (by unfold fO fS fR fN fP fX fF fL; omega)).mi (by unfold fO fS fR fN fP fX fF fL; omega)).agR a2 (fun a i k z => by unfold fO fS fR fN fP fX fF fL at z; omega))).up
/-- which table a number names: NONE the one that is now -/
def okK (κ : Nat) (x : Int32) (t : Nat) : Prop := (x = nONE ∧ t = 0) ∨ (0 < t ∧ t ≤ κ ∧ x = nI (t - 1))
theorem okK_tb (h1 : tbG μ n so wt κ tb) (hx : okK κ x t) : t ≤ κ ∧ wfT so n (tb t) ∧ tabR μ t (tb t) ∧ tabC μ (if t = 0 then 0 else 2 + t) n (tb t) := by
  have ht : t ≤ κ := by
    rcases hx with e | e
    · omega
    · exact e.2.1
  refine ⟨ht, h1.2.2.2.2.2.1 t ht, h1.2.2.2.2.2.2.2.2 t ht, ?_⟩
  by_cases q : t = 0
  · subst q; exact h1.2.2.2.2.2.2.1
  · rw [if_neg q]
    have := h1.2.2.2.2.2.2.2.1 (t - 1) (by omega)
    rw [show 3 + (t - 1) = 2 + t by omega, show t - 1 + 1 = t by omega] at this
    exact this
theorem c7_pick (hκ : κ ≤ 8) (hk : μ.1 16 0 5 = nI κ) (hx : okK κ x t) (h : Q 0 0 (8, if t = 0 then 0 else 2 + t) μ) : Call (d + 2) n7_tableAt [sR 16 0, sI x, sR 8 0] μ Q := by
  refine c7_tableAt hκ hk (fun k hk' e => ?_) (fun e => ?_)
  · rcases hx with ⟨e2, _⟩ | ⟨e2, e3, e4⟩
    · rw [e2] at e; exact absurd e (by simp (disch := first | omega | (simp (disch := omega) only [nI_toInt, Int32.reduceToInt, i_sub, i_add, i_mul]; omega)) only [iNONE, i_lt, i_le, i_eq, i_in, nI_toInt, Int32.reduceToInt, i_sub, i_add, i_mul]; omega)
    · rw [e4] at e
      have := (nI_eq (by omega) (by omega)).mp e
      rw [if_neg (by omega), show 2 + t = 3 + k by omega] at h
      exact h
  · rcases hx with ⟨_, e2⟩ | ⟨e2, e3, e4⟩
    · rw [if_pos e2] at h; exact h
    · rw [e4, nI_toInt (by omega)] at e; omega
theorem op_same (hI : INV ξ μ) (h : ∀ v μ', opQ ξ (d + 20) n12_same [sR 41 0, sI x, sI y] v μ' → Q v 0 (0, 0) μ') : Call (d + 20) n11_same [sR 0 0, sI x, sI y] μ Q := by
  have hI0 := hI
  obtain ⟨n, so, wt, κ, tb, lr, h1, h2, h3⟩ := hI0
  have g1 : tbG (m_i μ 41 0 0 0) n so wt κ tb := h1.fr (frm.rf.mi (by unfold fT; omega))
  have hκ := h1.2.2.1
  have hn := h1.1.2.1
  have kx : ∀ {x : Int32} {k : Nat}, k < κ → x = nI k → okK κ x (k + 1) := fun hk e => Or.inr ⟨by omega, by omega, e⟩
  have nx : ∀ {x : Int32} {t : Nat}, okK κ x t → ¬ x = nONE → ∃ k, k < κ ∧ x = nI k ∧ t = k + 1 := fun {x t} hx e => by
    rcases hx with e2 | e2
    · exact absurd e2.1 e
    · exact ⟨t - 1, by omega, e2.2.2, by omega⟩
  by_cases hb : (∃ t, okK κ x t) ∧ ∃ t, okK κ y t
  · obtain ⟨⟨t, ht⟩, u, hu⟩ := hb
    have q1 := okK_tb h1 ht
    have q2 := okK_tb h1 hu
    have q3 := okK_tb g1 ht
    have q4 := okK_tb g1 hu
    have hp := pic_iff q2.2.1 q1.2.1 hn
    have l1 := pc_62 q1.2.1 hn
    have l2 := pc_62 q2.2.1 hn
    have step : Run k11_same (Call (d + 19)) Q 37 [some (sR 0 0), some (sI x), some (sI y)] [] μ := by
      refine run_go 40 ?_
      refine c7_pick hκ h1.2.2.2.1 ht ?_
      refine c9_picture q1.2.1 h1.1 q1.2.2.2 ?_
      refine c7_pick hκ h1.2.2.2.1 hu ?_
      refine c9_picture q2.2.1 h1.1 q2.2.2.2 ?_
      have ref : ∀ (v : Int32) (Q : sQ), (v = 1 ∧ eqT n (tb t) (tb u) ∨ v = 0 ∧ ¬ eqT n (tb t) (tb u)) → Q v 0 (0, 0) (m_i μ 41 0 0 0) → Call (d + 20) n12_same [sR 41 0, sI x, sI y] μ Q := by
        intro v Q hv hq
        have r4 : ∀ (p q : Int32), p = nI t → q = nI u → Call (d + 19) n12_isSame [sR 41 0, sI p, sI q] (m_i μ 41 0 0 0) (fun v _ _ μ' => Run k12_same (Call (d + 19)) Q 66 [some (sR 41 0), some (sI x), some (sI y)] [sI v] μ') := by
          intro p q hp hq'
          subst hp; subst hq'
          refine r12_isSame rfl rfl (by omega) (by omega) q1.2.1 q2.2.1 hn q3.2.2.1 q4.2.2.1 (fun e => ?_) (fun e => ?_)
          · rcases hv with ⟨rfl, _⟩ | ⟨_, hv⟩
            · refine run_go 20 ?_
              refine brF (by decide) ?_
              exact hq
            · exact absurd e hv
          · rcases hv with ⟨_, hv⟩ | ⟨rfl, _⟩
            · exact absurd hv e
            · refine run_go 20 ?_
              refine brT rfl ?_
              exact hq
        have r3 : ∀ p : Int32, p = nI t → Run k12_same (Call (d + 19)) Q 50 [some (sR 41 0), some (sI x), some (sI y)] [sI p, sR 41 0] (m_i μ 41 0 0 0) := by
          intro p hp
          refine run_go 3 ?_
          refine And.intro (fun e => ?_) (fun e => ?_)
          · obtain ⟨k, hk, e2, e3⟩ := nx hu e
            refine run_go 4 ?_
            exact r4 p _ hp (by rw [e2, nI_1, e3])
          · have e3 : u = 0 := by
              rcases hu with e2 | e2
              · exact e2.2
              · rw [e] at e2; exact absurd e2.2.2 (by simp (disch := first | omega | (simp (disch := omega) only [nI_toInt, Int32.reduceToInt, i_sub, i_add, i_mul]; omega)) only [iNONE, i_lt, i_le, i_eq, i_in, nI_toInt, Int32.reduceToInt, i_sub, i_add, i_mul]; omega)
            refine run_go 3 ?_
            exact r4 p _ hp (by rw [e3]; rfl)
        have r2 : Run k12_same (Call (d + 19)) Q 36 [some (sR 41 0), some (sI x), some (sI y)] [] (m_i μ 41 0 0 0) := by
          refine run_go 4 ?_
          refine And.intro (fun e => ?_) (fun e => ?_)
          · obtain ⟨k, hk, e2, e3⟩ := nx ht e
            refine run_go 3 ?_
            exact r3 _ (by rw [e2, nI_1, e3])
          · have e3 : t = 0 := by
              rcases ht with e2 | e2
              · exact e2.2
              · rw [e] at e2; exact absurd e2.2.2 (by simp (disch := first | omega | (simp (disch := omega) only [nI_toInt, Int32.reduceToInt, i_sub, i_add, i_mul]; omega)) only [iNONE, i_lt, i_le, i_eq, i_in, nI_toInt, Int32.reduceToInt, i_sub, i_add, i_mul]; omega)
            refine run_go 2 ?_
            exact r3 _ (by rw [e3]; rfl)
        have r1 : Run k12_same (Call (d + 19)) Q 19 [some (sR 41 0), some (sI x), some (sI y)] [] (m_i μ 41 0 0 0) := by
          refine run_go 3 ?_
          refine And.intro (fun e => r2) (fun e => ?_)
          obtain ⟨k, hk, e2, e3⟩ := nx hu e
          refine run_go 4 ?_
          refine r12_isKept hκ g1.2.2.2.2.1 (fun _ _ _ => ?_) (fun q => by rw [e2, nI_toInt (by omega)] at q; omega)
          refine brnF (by decide) ?_
          exact r2
        refine call_go (cd := k12_same) 6 rfl rfl ?_
        refine And.intro (fun e => r1) (fun e => ?_)
        obtain ⟨k, hk, e2, e3⟩ := nx ht e
        refine run_go 4 ?_
        refine r12_isKept hκ g1.2.2.2.2.1 (fun _ _ _ => ?_) (fun q => by rw [e2, nI_toInt (by omega)] at q; omega)
        refine brF (by decide) ?_
        exact r1
      by_cases e : eqT n (tb t) (tb u)
      · refine brnT (cmp_eq.mpr (by rw [(pic_iff q1.2.1 q2.2.1 hn).mpr e])) ?_
        exact h _ _ (fun Q hq => ref 1 Q (Or.inl ⟨rfl, e⟩) (hq _ hI.th))
      · refine brnF (fun z => e ((pic_iff q1.2.1 q2.2.1 hn).mp ((l64_inj l1 l2).mp (cmp_eq.mp z)).symm)) ?_
        exact h _ _ (fun Q hq => ref 0 Q (Or.inr ⟨rfl, e⟩) (hq _ hI.th))
    have step2 : Run k11_same (Call (d + 19)) Q 17 [some (sR 0 0), some (sI x), some (sI y)] [] μ := by
      refine run_go 3 ?_
      refine And.intro (fun e => step) (fun e => ?_)
      obtain ⟨k, hk, e2, e3⟩ := nx hu e
      refine run_go 5 ?_
      refine c7_has hκ h1.2.2.2.1 (fun _ _ _ => ?_) (fun q => by rw [e2, nI_toInt (by omega)] at q; omega)
      refine brnF (by decide) ?_
      exact step
    refine call_go (cd := k11_same) 3 rfl rfl ?_
    refine And.intro (fun e => step2) (fun e => ?_)
    obtain ⟨k, hk, e2, e3⟩ := nx ht e
    refine run_go 5 ?_
    refine c7_has hκ h1.2.2.2.1 (fun _ _ _ => ?_) (fun q => by rw [e2, nI_toInt (by omega)] at q; omega)
    refine brF (by decide) ?_
    exact step2
  · have hB : Q (-1000001) 0 (0, 0) μ := by
      refine h _ _ (fun Q hq => ?_)
      have hq' := hq _ hI.th
      have r1 : (∃ t, okK κ x t) → Run k12_same (Call (d + 19)) Q 19 [some (sR 41 0), some (sI x), some (sI y)] [] (m_i μ 41 0 0 0) := by
        intro hx
        refine run_go 30 ?_
        refine And.intro (fun e => absurd ⟨hx, 0, Or.inl ⟨e, rfl⟩⟩ hb) (fun e => ?_)
        refine r12_isKept hκ g1.2.2.2.2.1 (fun k hk e => absurd ⟨hx, k + 1, kx hk e⟩ hb) (fun q => ?_)
        refine brnT rfl ?_
        exact hq'
      refine call_go (cd := k12_same) 6 rfl rfl ?_
      refine And.intro (fun e => r1 ⟨0, Or.inl ⟨e, rfl⟩⟩) (fun e => ?_)
      refine run_go 4 ?_
      refine r12_isKept hκ g1.2.2.2.2.1 (fun k hk e => ?_) (fun q => ?_)
      · refine brF (by decide) ?_
        exact r1 ⟨k + 1, kx hk e⟩
      · refine brT rfl ?_
        refine run_go 20 ?_
        exact hq'
    have r1 : (∃ t, okK κ x t) → Run k11_same (Call (d + 19)) Q 17 [some (sR 0 0), some (sI x), some (sI y)] [] μ := by
      intro hx
      refine run_go 30 ?_
      refine And.intro (fun e => absurd ⟨hx, 0, Or.inl ⟨e, rfl⟩⟩ hb) (fun e => ?_)
      refine c7_has hκ h1.2.2.2.1 (fun k hk e => absurd ⟨hx, k + 1, kx hk e⟩ hb) (fun q => ?_)
      refine brnT rfl ?_
      exact hB
    refine call_go (cd := k11_same) 3 rfl rfl ?_
    refine And.intro (fun e => r1 ⟨0, Or.inl ⟨e, rfl⟩⟩) (fun e => ?_)
    refine run_go 5 ?_
    refine c7_has hκ h1.2.2.2.1 (fun k hk e => ?_) (fun q => ?_)
    · refine brF (by decide) ?_
      exact r1 ⟨k + 1, kx hk e⟩
    · refine brT rfl ?_
      refine run_go 20 ?_
      exact hB
end OP
