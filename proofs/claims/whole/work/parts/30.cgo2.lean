/-! a move, and a table taken over -/
section CG
variable {d t n k c s a b r u : Nat} {μ : sM} {Q : sQ} {so wt : Nat → Nat} {T : tT} {x y z : Int32}
theorem c9_go (hx : x = nI k) (hy : y = nI a) (hw : wfT so n T) (hn : n ≤ 6) (hT : tabC μ t n T) (hk : k < n) (hc : zB T k = 9 → zI T k + 1 = zS T (zC T k)) (ha : a < 8 ∨ 8 ≤ a ∧ a - 8 < n ∧ zN (upT T k) (a - 8) = 9) (h : ∀ μ', agT t μ μ' → tabC μ' t n (goT T k a) → Q 0 0 (0, 0) μ') : Call (d + 3) n9_go [sR 8 t, sI x, sI y] μ Q := by
  subst hx; subst hy
  have hs := wf_spot hw hn hk
  have h1 := wf_up hw hn hk hc
  refine call_go (cd := k9_go) 60 rfl rfl ?_
  refine c9_spotOf rfl (by omega) ?_
  rw [(hT.1 k hk).1]
  by_cases e : zB T k = 9
  · have h2 := hs.2.2.2 e
    refine brT (by simp (disch := first | omega | (simp (disch := omega) only [nI_toInt, Int32.reduceToInt, i_sub, i_add, i_mul]; omega)) only [iNONE, i_lt, i_le, i_eq, i_in, nI_toInt, Int32.reduceToInt, i_sub, i_add, i_mul]; omega) ?_
    refine brF (by simp (disch := first | omega | (simp (disch := omega) only [nI_toInt, Int32.reduceToInt, i_sub, i_add, i_mul]; omega)) only [iNONE, i_lt, i_le, i_eq, i_in, nI_toInt, Int32.reduceToInt, i_sub, i_add, i_mul]; omega) ?_
    refine brF (by simp (disch := first | omega | (simp (disch := omega) only [nI_toInt, Int32.reduceToInt, i_sub, i_add, i_mul]; omega)) only [iNONE, i_lt, i_le, i_eq, i_in, nI_toInt, Int32.reduceToInt, i_sub, i_add, i_mul]; omega) ?_
    refine c9_belowOf rfl (by omega) ?_
    refine And.intro (by simp (disch := first | omega | (simp (disch := omega) only [nI_toInt, Int32.reduceToInt, i_sub, i_add, i_mul]; omega)) only [iNONE, i_lt, i_le, i_eq, i_in, nI_toInt, Int32.reduceToInt, i_sub, i_add, i_mul]; omega) ?_
    rw [nI_clamp (by omega), h2.1]
    refine c9_land rfl rfl h1 hn (up_cell hw hn hT hk e (hc e)) ha (fun μ' g1 g2 => ?_)
    exact h μ' ((agT.rf.mi (by decide)).tr g1) g2
  · have h2 := hs.2.2.1 e
    refine brF (by simp (disch := first | omega | (simp (disch := omega) only [nI_toInt, Int32.reduceToInt, i_sub, i_add, i_mul]; omega)) only [iNONE, i_lt, i_le, i_eq, i_in, nI_toInt, Int32.reduceToInt, i_sub, i_add, i_mul]; omega) ?_
    refine brF (by simp (disch := first | omega | (simp (disch := omega) only [nI_toInt, Int32.reduceToInt, i_sub, i_add, i_mul]; omega)) only [iNONE, i_lt, i_le, i_eq, i_in, nI_toInt, Int32.reduceToInt, i_sub, i_add, i_mul]; omega) ?_
    have e2 : nI (spT T k) - 8 = nI (zB T k) := by
      rw [h2.1]
      exact nI_sub (a := 8 + zB T k) (b := 8) (by omega) |>.trans (by rw [Nat.add_sub_cancel_left])
    refine And.intro (by rw [e2]; exact vp_in_nI (by omega) (by decide)) ?_
    rw [e2, nI_clamp (by omega)]
    refine c9_land rfl rfl h1 hn (up_box hw hn hT hk e) ha (fun μ' g1 g2 => ?_)
    exact h μ' ((agT.rf.mi (by decide)).tr g1) g2
theorem cg_go (hw : wfT so n T) (hg : cgT so n T k a) (ha : a < 14) : (zB T k = 9 → zI T k + 1 = zS T (zC T k)) ∧ (a < 8 ∨ 8 ≤ a ∧ a - 8 < n ∧ zN (upT T k) (a - 8) = 9) := by
  refine ⟨fr_clear hg.1, ?_⟩
  by_cases e : a < 8
  · exact Or.inl e
  · have g := hg.2 (by omega)
    refine Or.inr ⟨by omega, g.1, ?_⟩
    unfold upT
    by_cases e2 : zB T k = 9
    · rw [if_pos e2]; exact g.2.2.2.2
    · rw [if_neg e2]
      show updN (zN T) (zB T k) 9 (a - 8) = 9
      by_cases e3 : a - 8 = zB T k
      · rw [e3]; exact updN_s
      · rw [updN_n e3]; exact g.2.2.2.2
theorem mc_s {μ : sM} {a u t N j : Nat} (h : j < N) : (m_c μ a u 0 a t 0 N).1 a t j = μ.1 a u j := by
  show (if a = a ∧ t = t then va_cpy (μ.1 a u) (μ.1 a t) 0 0 N j else _) = _
  rw [if_pos ⟨rfl, rfl⟩]
  unfold va_cpy
  rw [if_pos (by omega), Nat.sub_zero, Nat.zero_add]
theorem mc_t {μ : sM} {a u t N b i j : Nat} (h : b ≠ a ∨ i ≠ t) : (m_c μ a u 0 a t 0 N).1 b i j = μ.1 b i j := if_neg (fun e => by omega)
theorem agT.mc {μ μ' : sM} {a N : Nat} (h : agT t μ μ') (ha : 9 ≤ a ∧ a ≤ 12) : agT t μ (m_c μ' a u 0 a t 0 N) := by
  refine ⟨fun b i j z => ?_, h.2⟩
  rw [← h.1 b i j z]
  exact mc_t (by omega)
theorem c9_takeOver (hut : u ≠ t) (hT : tabC μ u n T) (hn : n ≤ 6) (h : ∀ μ', agT t μ μ' → tabC μ' t n T → Q 0 0 (0, 0) μ') : Call (d + 1) n9_takeOver [sR 8 t, sR 8 u] μ Q := by
  refine call_go (cd := k9_takeOver) 60 rfl rfl ?_
  refine And.intro (by decide) ?_
  refine And.intro (by decide) ?_
  refine And.intro (by decide) ?_
  refine And.intro (by decide) ?_
  refine h _ ((((agT.rf.mc (by decide)).mc (by decide)).mc (by decide)).mc (by decide)) ?_
  show tabC (m_c (m_c (m_c (m_c μ 9 u 0 9 t 0 6) 10 u 0 10 t 0 6) 11 u 0 11 t 0 6) 12 u 0 12 t 0 8) t n T
  obtain ⟨h1, h2, h3, h4⟩ := hT
  have r9 : ∀ j, j < 6 → (m_c (m_c (m_c (m_c μ 9 u 0 9 t 0 6) 10 u 0 10 t 0 6) 11 u 0 11 t 0 6) 12 u 0 12 t 0 8).1 9 t j = μ.1 9 u j := fun j hj => by
    rw [mc_t (Or.inl (by decide)), mc_t (Or.inl (by decide)), mc_t (Or.inl (by decide)), mc_s hj]
  have r10 : ∀ j, j < 6 → (m_c (m_c (m_c (m_c μ 9 u 0 9 t 0 6) 10 u 0 10 t 0 6) 11 u 0 11 t 0 6) 12 u 0 12 t 0 8).1 10 t j = μ.1 10 u j := fun j hj => by
    rw [mc_t (Or.inl (by decide)), mc_t (Or.inl (by decide)), mc_s hj, mc_t (Or.inl (by decide))]
  have r11 : ∀ j, j < 6 → (m_c (m_c (m_c (m_c μ 9 u 0 9 t 0 6) 10 u 0 10 t 0 6) 11 u 0 11 t 0 6) 12 u 0 12 t 0 8).1 11 t j = μ.1 11 u j := fun j hj => by
    rw [mc_t (Or.inl (by decide)), mc_s hj, mc_t (Or.inl (by decide)), mc_t (Or.inl (by decide))]
  have r12 : ∀ j, j < 8 → (m_c (m_c (m_c (m_c μ 9 u 0 9 t 0 6) 10 u 0 10 t 0 6) 11 u 0 11 t 0 6) 12 u 0 12 t 0 8).1 12 t j = μ.1 12 u j := fun j hj => by
    rw [mc_s hj, mc_t (Or.inl (by decide)), mc_t (Or.inl (by decide)), mc_t (Or.inl (by decide))]
  refine ⟨fun k hk => ?_, fun k hk hk6 => ?_, fun b hb => ?_, fun c hc => ?_⟩
  · rw [r9 k (by omega), r10 k (by omega)]; exact h1 k hk
  · rw [r9 k hk6, r10 k hk6]; exact h2 k hk hk6
  · rw [r11 b hb]; exact h3 b hb
  · rw [r12 c hc]; exact h4 c hc
end CG
/-- tables that are alike wherever they are read -/
def eqT (n : Nat) (T T' : tT) : Prop := (∀ c, c < 8 → zS T' c = zS T c) ∧ (∀ c i, c < 8 → i < zS T c → zA T' c i = zA T c i) ∧ (∀ k, zB T' k = zB T k ∧ zN T' k = zN T k) ∧ ∀ k, k < n → zB T k = 9 → zC T' k = zC T k ∧ zI T' k = zI T k
section EQ
variable {t n k c s a b r u : Nat} {μ : sM} {so wt : Nat → Nat} {T T' : tT}
theorem eqT.rf : eqT n T T := ⟨fun _ _ => rfl, fun _ _ _ _ => rfl, fun _ => ⟨rfl, rfl⟩, fun _ _ _ => ⟨rfl, rfl⟩⟩
theorem eqT.sy (hw : wfT so n T) (h : eqT n T T') : eqT n T' T := by
  refine ⟨fun c hc => (h.1 c hc).symm, fun c i hc hi => (h.2.1 c i hc (by rw [← h.1 c hc]; exact hi)).symm, fun k => ⟨(h.2.2.1 k).1.symm, (h.2.2.1 k).2.symm⟩, fun k hk hb => ?_⟩
  have hb : zB T k = 9 := by rw [← (h.2.2.1 k).1]; exact hb
  exact ⟨(h.2.2.2 k hk hb).1.symm, (h.2.2.2 k hk hb).2.symm⟩
theorem eqT.sp (hw : wfT so n T) (h : eqT n T T') (hk : k < n) : spT T' k = spT T k ∧ blT T' k = blT T k := by
  unfold spT blT
  rw [(h.2.2.1 k).1]
  by_cases e : zB T k = 9
  · have h1 := h.2.2.2 k hk e
    have h2 := hw.2.1 k hk e
    rw [if_pos e, if_pos e, h1.1, h1.2]
    refine ⟨rfl, ?_⟩
    by_cases e2 : 0 < zI T k
    · rw [if_pos ⟨e, e2⟩, if_pos ⟨e, e2⟩, h.2.1 _ _ h2.1 (by omega)]
    · rw [if_neg (fun z => e2 z.2), if_neg (fun z => e2 z.2)]
  · rw [if_neg e, if_neg e, if_neg (fun z => e z.1), if_neg (fun z => e z.1)]
    exact ⟨rfl, rfl⟩
theorem eqT.tp (h : eqT n T T') (hc : c < 8) : tpT T' c = tpT T c := by
  unfold tpT
  rw [h.1 c hc]
  by_cases e : zS T c = 0
  · rw [if_pos e, if_pos e]
  · rw [if_neg e, if_neg e, h.2.1 c _ hc (by omega)]
theorem tabC.eq (hw : wfT so n T) (h : tabC μ t n T) (e : eqT n T T') : tabC μ t n T' := by
  refine ⟨fun k hk => ?_, h.2.1, fun b hb => ?_, fun c hc => ?_⟩
  · rw [(e.sp hw hk).1, (e.sp hw hk).2]; exact h.1 k hk
  · rw [(e.2.2.1 b).2]; exact h.2.2.1 b hb
  · rw [e.tp hc]; exact h.2.2.2 c hc
theorem tabR.eq (h : tabR μ r T) (e : eqT n T T') : tabR μ r T' := by
  refine ⟨fun c hc => ?_, fun c i hc hi => ?_, fun k hk => ?_⟩
  · rw [e.1 c hc]; exact h.1 c hc
  · rw [e.1 c hc, h.2.1 c i hc hi]
    by_cases e2 : i < zS T c
    · rw [if_pos e2, if_pos e2, e.2.1 c i hc e2]
    · rw [if_neg e2, if_neg e2]
  · rw [(e.2.2.1 k).1]; exact h.2.2 k hk
theorem wfT.eq (hw : wfT so n T) (e : eqT n T T') : wfT so n T' := by
  refine ⟨fun c i hc hi => ?_, fun k hk hb => ?_, fun k hk hb => ?_, fun b hb hne => ?_, fun k hk => ?_⟩
  · rw [e.1 c hc] at hi
    have g := hw.1 c i hc hi
    have g2 := e.2.2.2 _ g.1 g.2.1
    rw [e.2.1 c i hc hi, (e.2.2.1 _).1, g2.1, g2.2]
    exact g
  · rw [(e.2.2.1 k).1] at hb
    have g := hw.2.1 k hk hb
    have g2 := e.2.2.2 k hk hb
    rw [g2.1, g2.2, e.1 _ g.1, e.2.1 _ _ g.1 g.2.1]
    exact g
  · rw [(e.2.2.1 k).1] at hb ⊢
    rw [(e.2.2.1 _).1, (e.2.2.1 _).2]
    exact hw.2.2.1 k hk hb
  · rw [(e.2.2.1 b).2] at hne ⊢
    rw [(e.2.2.1 _).1]
    exact hw.2.2.2.1 b hb hne
  · rw [(e.2.2.1 k).1, (e.2.2.1 k).2]
    exact hw.2.2.2.2 k hk
end EQ
