/-! asks: the reference, and both -/
section OP
variable {d n k c s a b r u o i rel κ lr t p : Nat} {μ μ' : sM} {Q : sQ} {so wt rc : Nat → Nat} {T T' : tT} {tb : Nat → tT} {x y z w v : Int32} {ξ : Nat → Nat → Int32} {l : List Int32}
theorem r12_bx (hw : wfT so n T) (hS : stkR μ n so wt) (hR : tabR μ 0 T) (hk : k < n) (h : ∀ j, Run k12_boxSize (Call (d + 2)) Q 53 [some (sR 41 0), some (sI (nI k)), some (sI x), some (sI j), some (sI (bxV wt T k))] [] μ) : Run k12_boxSize (Call (d + 2)) Q 23 [some (sR 41 0), some (sI (nI k)), some (sI x)] [] μ := by
  have hn := hS.2.1
  have hN : zN T k = 9 ∨ zN T k < n := by
    by_cases e : zN T k = 9
    · exact Or.inl e
    · exact Or.inr (hw.2.2.2.1 k hk e).1
  unfold bxV at h
  refine run_go 11 ?_
  refine r12_insideOf (r := 0) rfl rfl hw hS (by decide) hR hk ?_
  refine And.intro (by simp (disch := first | omega | (simp (disch := omega) only [nI_toInt, Int32.reduceToInt, i_sub, i_add, i_mul]; omega)) only [iNONE, i_lt, i_le, i_eq, i_in, nI_toInt, Int32.reduceToInt, i_sub, i_add, i_mul]; omega) ?_
  rw [nI_clamp (by omega), (hS.2.2 k hk).2.1]
  by_cases e : zN T k = 9
  · rw [if_pos e] at h
    refine brF (by rw [e]; decide) ?_
    refine run_go 4 ?_
    exact h _
  · rw [if_neg e] at h
    rw [m9_n e]
    refine brT (by simp (disch := first | omega | (simp (disch := omega) only [nI_toInt, Int32.reduceToInt, i_sub, i_add, i_mul]; omega)) only [iNONE, i_lt, i_le, i_eq, i_in, nI_toInt, Int32.reduceToInt, i_sub, i_add, i_mul]; omega) ?_
    refine run_go 6 ?_
    refine And.intro (by simp (disch := first | omega | (simp (disch := omega) only [nI_toInt, Int32.reduceToInt, i_sub, i_add, i_mul]; omega)) only [iNONE, i_lt, i_le, i_eq, i_in, nI_toInt, Int32.reduceToInt, i_sub, i_add, i_mul]; omega) ?_
    rw [nI_clamp (by omega), (hS.2.2 _ (by omega)).2.1]
    exact h _
theorem r12_box3 (hb : μ.1 41 0 33 = nI i) (hi : i + 1 < 16) (hw : wfT so n T) (hS : stkR μ n so wt) (hR : tabR μ 0 T) (hk : k < n) (h : Q (bxV wt T k) 0 (0, 0) (bgR μ i [12, 10])) : Call (d + 3) n12_boxSize [sR 41 0, sI (nI k), sI 3] μ Q := by
  refine call_go (cd := k12_boxSize) 3 rfl rfl ?_
  refine brnF (by decide) ?_
  refine run_go 6 ?_
  refine r12_began hb (by omega) ?_
  refine r12_began mi_s (by omega) ?_
  refine r12_bx hw (hS.f2 (bgR_U (l := [12, 10]))) (hR.f2 (bgR_U (l := [12, 10]))) hk (fun j => ?_)
  refine run_go 20 ?_
  refine brnF (by decide) ?_
  exact h
theorem r12_box4 (hb : μ.1 41 0 33 = nI i) (hi : i + 2 < 16) (hw : wfT so n T) (hS : stkR μ n so wt) (hR : tabR μ 0 T) (hk : k < n) (h : Q (2 * bxV wt T k) 0 (0, 0) (bgR μ i [13, 12, 10])) : Call (d + 3) n12_boxSize [sR 41 0, sI (nI k), sI 4] μ Q := by
  refine call_go (cd := k12_boxSize) 3 rfl rfl ?_
  refine brnT rfl ?_
  refine run_go 9 ?_
  refine r12_began hb (by omega) ?_
  refine r12_began mi_s (by omega) ?_
  refine r12_began mi_s (by omega) ?_
  refine r12_bx hw (hS.f2 (bgR_U (l := [13, 12, 10]))) (hR.f2 (bgR_U (l := [13, 12, 10]))) hk (fun j => ?_)
  refine run_go 20 ?_
  refine brnT rfl ?_
  exact h
/-- marks -/
def mkL (K : Nat) : List Int32 := if K = 1 then [21, 20] else if K = 2 then [23, 20] else if K = 3 then [20] else if K = 4 then [22, 20, 13, 12, 10] else [20]
noncomputable def mkA (wt : Nat → Nat) (T : tT) (k K : Nat) : Int32 := if K = 1 then mkV T k else if K = 2 then nI k + 1000 else if K = 3 then nI k else if K = 4 then nI k + 2 * bxV wt T k else nI k
def szL (K : Nat) : List Int32 := if K = 1 then [11, 10, 21, 20] else if K = 2 then [10] else if K = 3 then [12, 10] else if K = 4 then [13, 12, 10] else [14, 10]
noncomputable def szA (wt : Nat → Nat) (T : tT) (k K : Nat) : Int32 := if K = 1 then nI (wt k) + mkV T k else if K = 2 then nI (wt k) else if K = 3 then bxV wt T k else if K = 4 then 2 * bxV wt T k else nI (wt k) + nI (dpT T k)
theorem r12_mark1 (hb : μ.1 41 0 33 = nI i) (hi : i + 1 < 16) (hw : wfT so n T) (hS : stkR μ n so wt) (hR : tabR μ 0 T) (hk : k < n) (h : Q (mkV T k) 0 (0, 0) (bgR μ i [21, 20])) : Call (d + 4) n12_markOf [sR 41 0, sI (nI k), sI 1] μ Q := by
  have hn := hS.2.1
  unfold mkV at h
  refine call_go (cd := k12_markOf) 60 rfl rfl ?_
  refine brT rfl ?_
  refine brnT rfl ?_
  refine r12_began hb (by omega) ?_
  refine r12_began mi_s (by omega) ?_
  refine brnT rfl ?_
  refine r12_isClear (r := 0) rfl rfl hw hn (by decide) (hR.f2 (bgR_U (l := [21, 20]))) hk (fun e => ?_) (fun e => ?_)
  · refine brF (by decide) ?_
    rw [tB_t e] at h
    exact h
  · refine brT rfl ?_
    refine brnF (by decide) ?_
    refine brnF (by decide) ?_
    rw [tB_f e, show nI (100 * 0) = 0 from rfl, Int32.add_zero] at h
    exact h
theorem r12_markOf {K : Nat} (hx : x = nI K) (hK : 1 ≤ K ∧ K ≤ 5) (hb : μ.1 41 0 33 = 0) (hw : wfT so n T) (hS : stkR μ n so wt) (hR : tabR μ 0 T) (hk : k < n) (h : Q (mkA wt T k K) 0 (0, 0) (bgR μ 0 (mkL K))) : Call (d + 4) n12_markOf [sR 41 0, sI (nI k), sI x] μ Q := by
  subst hx
  have hn := hS.2.1
  have hb' : μ.1 41 0 33 = nI 0 := hb
  rcases (by omega : K = 1 ∨ K = 2 ∨ K = 3 ∨ K = 4 ∨ K = 5) with rfl | rfl | rfl | rfl | rfl
  · exact r12_mark1 hb' (by omega) hw hS hR hk h
  · refine call_go (cd := k12_markOf) 60 rfl rfl ?_
    refine brF (by decide) ?_
    refine brF (by decide) ?_
    refine brnT rfl ?_
    refine brnF (by decide) ?_
    refine brnF (by decide) ?_
    refine r12_began hb' (by omega) ?_
    refine r12_began mi_s (by omega) ?_
    refine brnF (by decide) ?_
    refine brnF (by decide) ?_
    refine brnT rfl ?_
    exact h
  · refine call_go (cd := k12_markOf) 60 rfl rfl ?_
    refine brF (by decide) ?_
    refine brF (by decide) ?_
    refine brnF (by decide) ?_
    refine r12_began hb' (by omega) ?_
    refine brnF (by decide) ?_
    refine brnF (by decide) ?_
    refine brnF (by decide) ?_
    exact h
  · refine call_go (cd := k12_markOf) 60 rfl rfl ?_
    refine brF (by decide) ?_
    refine brT rfl ?_
    refine brnF (by decide) ?_
    refine brnT rfl ?_
    refine r12_began hb' (by omega) ?_
    refine r12_began mi_s (by omega) ?_
    refine brnF (by decide) ?_
    refine brnT rfl ?_
    refine r12_box4 (i := 2) mi_s (by omega) hw (hS.f2 (bgR_U (l := [22, 20]))) (hR.f2 (bgR_U (l := [22, 20]))) hk ?_
    exact h
  · refine call_go (cd := k12_markOf) 60 rfl rfl ?_
    refine brF (by decide) ?_
    refine brF (by decide) ?_
    refine brnF (by decide) ?_
    refine r12_began hb' (by omega) ?_
    refine brnF (by decide) ?_
    refine brnF (by decide) ?_
    refine brnF (by decide) ?_
    exact h
theorem r12_askSize {K : Nat} (hx : x = nI K) (hK : 1 ≤ K ∧ K ≤ 5) (hb : μ.1 41 0 33 = 0) (hw : wfT so n T) (hS : stkR μ n so wt) (hR : tabR μ 0 T) (hk : k < n) (h : Q (szA wt T k K) 0 (0, 0) (bgR μ 0 (szL K))) : Call (d + 5) n12_askSize [sR 41 0, sI (nI k), sI x] μ Q := by
  subst hx
  have hn := hS.2.1
  have hb' : μ.1 41 0 33 = nI 0 := hb
  rcases (by omega : K = 1 ∨ K = 2 ∨ K = 3 ∨ K = 4 ∨ K = 5) with rfl | rfl | rfl | rfl | rfl
  · refine call_go (cd := k12_askSize) 60 rfl rfl ?_
    refine call_go (cd := k12_isOf) 60 rfl rfl ?_
    refine brF (by decide) ?_
    refine brF (by decide) ?_
    refine brnT rfl ?_
    refine brnF (by decide) ?_
    refine ⟨Or.inl rfl, ?_⟩
    refine brT rfl ?_
    refine brT rfl ?_
    refine brnT rfl ?_
    refine r12_began hb' (by omega) ?_
    refine r12_began mi_s (by omega) ?_
    refine And.intro (by simp (disch := first | omega | (simp (disch := omega) only [nI_toInt, Int32.reduceToInt, i_sub, i_add, i_mul]; omega)) only [iNONE, i_lt, i_le, i_eq, i_in, nI_toInt, Int32.reduceToInt, i_sub, i_add, i_mul]; omega) ?_
    have gS : stkR (bgR μ 0 [11, 10]) n so wt := hS.f2 bgR_U
    have gw : (bgR μ 0 [11, 10]).1 44 0 k = nI (wt k) := (gS.2.2 k hk).2.1
    rw [nI_clamp (by omega)]
    refine brnT rfl ?_
    refine r12_mark1 (i := 2) mi_s (by omega) hw gS (hR.f2 (bgR_U (l := [11, 10]))) hk ?_
    show Q ((bgR μ 0 [11, 10]).1 44 0 k + mkV T k) 0 (0, 0) (bgR μ 0 [11, 10, 21, 20])
    rw [gw]
    exact h
  · refine call_go (cd := k12_askSize) 60 rfl rfl ?_
    refine call_go (cd := k12_isOf) 60 rfl rfl ?_
    refine brF (by decide) ?_
    refine brF (by decide) ?_
    refine brnT rfl ?_
    refine brnF (by decide) ?_
    refine ⟨Or.inl rfl, ?_⟩
    refine brT rfl ?_
    refine brF (by decide) ?_
    refine brnF (by decide) ?_
    refine r12_began hb' (by omega) ?_
    refine And.intro (by simp (disch := first | omega | (simp (disch := omega) only [nI_toInt, Int32.reduceToInt, i_sub, i_add, i_mul]; omega)) only [iNONE, i_lt, i_le, i_eq, i_in, nI_toInt, Int32.reduceToInt, i_sub, i_add, i_mul]; omega) ?_
    have gS : stkR (bgR μ 0 [10]) n so wt := hS.f2 bgR_U
    have gw : (bgR μ 0 [10]).1 44 0 k = nI (wt k) := (gS.2.2 k hk).2.1
    rw [nI_clamp (by omega)]
    refine brnF (by decide) ?_
    refine brnF (by decide) ?_
    show Q ((bgR μ 0 [10]).1 44 0 k) 0 (0, 0) (bgR μ 0 [10])
    rw [gw]
    exact h
  · refine call_go (cd := k12_askSize) 60 rfl rfl ?_
    refine call_go (cd := k12_isOf) 60 rfl rfl ?_
    refine brF (by decide) ?_
    refine brT rfl ?_
    refine ⟨Or.inr rfl, ?_⟩
    refine brF (by decide) ?_
    refine r12_box3 hb' (by omega) hw hS hR hk ?_
    exact h
  · refine call_go (cd := k12_askSize) 60 rfl rfl ?_
    refine call_go (cd := k12_isOf) 60 rfl rfl ?_
    refine brF (by decide) ?_
    refine brF (by decide) ?_
    refine brnT rfl ?_
    refine brnT rfl ?_
    refine ⟨Or.inr rfl, ?_⟩
    refine brF (by decide) ?_
    refine r12_box4 hb' (by omega) hw hS hR hk ?_
    exact h
  · refine call_go (cd := k12_askSize) 60 rfl rfl ?_
    refine call_go (cd := k12_isOf) 60 rfl rfl ?_
    refine brF (by decide) ?_
    refine brF (by decide) ?_
    refine brnT rfl ?_
    refine brnF (by decide) ?_
    refine ⟨Or.inl rfl, ?_⟩
    refine brT rfl ?_
    refine brF (by decide) ?_
    refine brnT rfl ?_
    refine brnF (by decide) ?_
    refine r12_began hb' (by omega) ?_
    refine r12_began mi_s (by omega) ?_
    refine And.intro (by simp (disch := first | omega | (simp (disch := omega) only [nI_toInt, Int32.reduceToInt, i_sub, i_add, i_mul]; omega)) only [iNONE, i_lt, i_le, i_eq, i_in, nI_toInt, Int32.reduceToInt, i_sub, i_add, i_mul]; omega) ?_
    have gS : stkR (bgR μ 0 [14, 10]) n so wt := hS.f2 bgR_U
    have gR : tabR (bgR μ 0 [14, 10]) 0 T := hR.f2 bgR_U
    have gw : (bgR μ 0 [14, 10]).1 44 0 k = nI (wt k) := (gS.2.2 k hk).2.1
    have hbx := wf_bx hw hk
    rw [nI_clamp (by omega)]
    refine brnF (by decide) ?_
    refine brnT rfl ?_
    refine r12_boxOf (r := 0) rfl rfl (by decide) gR (by omega) ?_
    have h' : Q (nI (wt k) + nI (dpT T k)) 0 (0, 0) (bgR μ 0 [14, 10]) := h
    unfold dpT at h'
    by_cases e : zB T k = 9
    · rw [if_pos e] at h'
      refine brF (by rw [e]; decide) ?_
      refine r12_below (r := 0) rfl rfl hw hn (by decide) gR hk e ?_
      show Q ((bgR μ 0 [14, 10]).1 44 0 k + nI (zI T k)) 0 (0, 0) (bgR μ 0 [14, 10])
      rw [gw]
      exact h'
    · rw [if_neg e, show nI 0 = 0 from rfl, Int32.add_zero] at h'
      refine brT (by rw [m9_n e]; exact (by simp (disch := first | omega | (simp (disch := omega) only [nI_toInt, Int32.reduceToInt, i_sub, i_add, i_mul]; omega)) only [iNONE, i_lt, i_le, i_eq, i_in, nI_toInt, Int32.reduceToInt, i_sub, i_add, i_mul]; omega)) ?_
      show Q ((bgR μ 0 [14, 10]).1 44 0 k) 0 (0, 0) (bgR μ 0 [14, 10])
      rw [gw]
      exact h'
theorem c1_answer (hw : wfT so n T) (hS : stkC μ n so wt) (hT : tabC μ 0 n T) (hk : k < n) (ha : a < 2) (h1 : a = 0 → Q (szA wt T k (kdT so n T k)) 0 (0, 0) (bgC (m_i μ 39 0 3 0) 0 (szL (kdT so n T k)))) (h2 : a = 1 → Q (mkA wt T k (kdT so n T k)) 0 (0, 0) (bgC (m_i μ 39 0 3 0) 0 (mkL (kdT so n T k)))) : Call (d + 7) n1_answer [sR 39 0, sI (nI k), sI (nI a)] μ Q := by
  have gS : stkC (m_i μ 39 0 3 0) n so wt := hS.f2 (frm.rf.mi (by unfold fV; omega))
  have gT : tabC (m_i μ 39 0 3 0) 0 n T := hT.f2 (frm.rf.mi (by unfold fV; omega))
  have gb : (m_i μ 39 0 3 0).1 39 0 3 = nI 0 := mi_s
  have hK := kd_rg (so := so) (n := n) (T := T) (k := k)
  refine call_go (cd := k1_answer) 60 rfl rfl ?_
  rcases (by omega : a = 0 ∨ a = 1) with rfl | rfl
  · have h1 := h1 rfl
    refine brnT rfl ?_
    refine c1_sizeBody hw gS gT hk ?_
    generalize hKe : kdT so n T k = K at hK h1 ⊢
    rcases (by omega : K = 1 ∨ K = 2 ∨ K = 3 ∨ K = 4 ∨ K = 5) with rfl | rfl | rfl | rfl | rfl
    · exact c1_11 (p := 0) hKe (by omega) gb (by omega) hw gS gT hk h1
    · exact c1_10 (p := 0) (by omega) gb (by omega) gS hk h1
    · exact c1_12 (p := 0) (by omega) gb (by omega) hw gS gT hk h1
    · exact c1_13 (p := 0) (by omega) gb (by omega) hw gS gT hk h1
    · exact c1_14 (p := 0) (by omega) gb (by omega) hw gS gT hk h1
  · have h2 := h2 rfl
    refine brnF (by decide) ?_
    refine c1_markBody hw gS gT hk ?_
    generalize hKe : kdT so n T k = K at hK h2 ⊢
    rcases (by omega : K = 1 ∨ K = 2 ∨ K = 3 ∨ K = 4 ∨ K = 5) with rfl | rfl | rfl | rfl | rfl
    · exact c1_21 (p := 0) (by omega) gb (by omega) hw gS gT hk h2
    · exact c1_23 (p := 0) (by omega) gb (by omega) h2
    · exact c1_20 (p := 0) (by omega) gb (by omega) h2
    · exact c1_22 (p := 0) hKe (by omega) gb (by omega) hw gS gT hk h2
    · exact c1_20 (p := 0) (by omega) gb (by omega) h2
theorem op_ask (hI : INV ξ μ) (h : ∀ v μ', opQ ξ (d + 20) n12_ask [sR 41 0, sI x, sI y] v μ' → Q v 0 (0, 0) μ') : Call (d + 20) n11_ask [sR 0 0, sI x, sI y] μ Q := by
  have hI0 := hI
  obtain ⟨n, so, wt, κ, tb, lr, h1, h2, h3⟩ := hI0
  have g1 : tbG (m_i μ 41 0 0 0) n so wt κ tb := h1.fr (frm.rf.mi (by unfold fT; omega))
  have hw := h1.2.2.2.2.2.1 0 (Nat.zero_le _)
  have hC := h1.2.2.2.2.2.2.1
  have hS := h1.1
  have hn := hS.2.1
  refine call_go (cd := k11_ask) 60 rfl rfl ?_
  refine c8_knows hS (fun k hk e => ?_) (fun e => ?_)
  · subst e
    refine brF (by decide) ?_
    refine c11_within (b := 2) rfl (by decide) (fun a ha e => ?_) (fun e => ?_)
    · subst e
      refine brnF (by decide) ?_
      have U : ∀ l, frm fU μ (m_i (m_i (bgC (m_i μ 39 0 3 0) 0 l) 41 0 0 0) 41 0 33 0) := fun l a i k z => by
        have z' : a ≠ 39 ∧ a ≠ 40 ∧ ¬ (a = 41 ∧ k = 0) ∧ ¬ (a = 41 ∧ k = 33) := by unfold fU at z; omega
        rw [mi_n (by omega), mi_n (by omega), bgC_f _ _ _ _ _ _ z'.1 z'.2.1, mi_t z'.1]
      have U0 : ∀ l, frm fU μ (m_i (bgC (m_i μ 39 0 3 0) 0 l) 41 0 0 0) := fun l a i k z => by
        have z' : a ≠ 39 ∧ a ≠ 40 ∧ ¬ (a = 41 ∧ k = 0) ∧ ¬ (a = 41 ∧ k = 33) := by unfold fU at z; omega
        rw [mi_n (by omega), bgC_f _ _ _ _ _ _ z'.1 z'.2.1, mi_t z'.1]
      have hR := h1.2.2.2.2.2.2.2.2 0 (Nat.zero_le _)
      have hK := kd_rg (so := so) (n := n) (T := tb 0) (k := k)
      refine c1_answer hw hS hC hk ha (fun e => ?_) (fun e => ?_)
      · subst e
        have hl : (szL (kdT so n (tb 0) k)).length ≤ 16 := by
          generalize kdT so n (tb 0) k = K at hK
          rcases (by omega : K = 1 ∨ K = 2 ∨ K = 3 ∨ K = 4 ∨ K = 5) with rfl | rfl | rfl | rfl | rfl <;> decide
        refine h _ _ (fun Q hq => ?_)
        refine call_go (cd := k12_ask) 60 rfl rfl ?_
        refine r12_thingY (h1.2.1.f2 (U0 _)) hk ?_
        refine brF (by decide) ?_
        refine r12_inN (b := 2) (by decide) (fun _ _ _ => ?_) (fun q => by rw [nI_toInt (by omega)] at q; omega)
        refine brnF (by decide) ?_
        refine brnT rfl ?_
        refine r12_kindOf rfl hw (h1.2.1.f2 (U _)) (hR.f2 (U _)) hk ?_
        refine r12_askSize rfl hK mi_s hw (h1.2.1.f2 (U _)) (hR.f2 (U _)) hk ?_
        exact hq _ (ask_inv hI hl)
      · subst e
        have hl : (mkL (kdT so n (tb 0) k)).length ≤ 16 := by
          generalize kdT so n (tb 0) k = K at hK
          rcases (by omega : K = 1 ∨ K = 2 ∨ K = 3 ∨ K = 4 ∨ K = 5) with rfl | rfl | rfl | rfl | rfl <;> decide
        refine h _ _ (fun Q hq => ?_)
        refine call_go (cd := k12_ask) 60 rfl rfl ?_
        refine r12_thingY (h1.2.1.f2 (U0 _)) hk ?_
        refine brF (by decide) ?_
        refine r12_inN (b := 2) (by decide) (fun _ _ _ => ?_) (fun q => by rw [nI_toInt (by omega)] at q; omega)
        refine brnF (by decide) ?_
        refine brnF (by decide) ?_
        refine r12_kindOf rfl hw (h1.2.1.f2 (U _)) (hR.f2 (U _)) hk ?_
        refine r12_markOf rfl hK mi_s hw (h1.2.1.f2 (U _)) (hR.f2 (U _)) hk ?_
        exact hq _ (ask_inv hI hl)
    · refine brnT rfl ?_
      refine h _ _ (fun Q hq => ?_)
      refine call_go (cd := k12_ask) 60 rfl rfl ?_
      refine r12_thingY g1.2.1 hk ?_
      refine brF (by decide) ?_
      refine r12_inN (b := 2) (by decide) (fun a ha e2 => by subst e2; rw [nI_toInt (by omega)] at e; omega) (fun q => ?_)
      refine brnT rfl ?_
      exact hq _ hI.th
  · refine brT rfl ?_
    refine h _ _ (fun Q hq => ?_)
    refine call_go (cd := k12_ask) 60 rfl rfl ?_
    refine r12_thingN g1.2.1 e ?_
    refine brT rfl ?_
    exact hq _ hI.th
end OP
