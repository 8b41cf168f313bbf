/-! the reference's tables: writing -/
def agR (r : Nat) (μ μ' : sM) : Prop := (∀ a i k, ¬ (a = 42 ∧ 62 * r ≤ k ∧ k < 62 * r + 62) → μ'.1 a i k = μ.1 a i k) ∧ μ'.2 = μ.2
theorem agR.rf {r : Nat} {μ : sM} : agR r μ μ := ⟨fun _ _ _ _ => rfl, rfl⟩
theorem agR.tr {r : Nat} {μ μ' μ'' : sM} (h : agR r μ μ') (h' : agR r μ' μ'') : agR r μ μ'' := ⟨fun a i k z => (h'.1 a i k z).trans (h.1 a i k z), h'.2.trans h.2⟩
theorem agR.mi {r k : Nat} {μ μ' : sM} {x : Int32} (h : agR r μ μ') (hk : 62 * r ≤ k ∧ k < 62 * r + 62) : agR r μ (m_i μ' 42 0 k x) := by
  refine ⟨fun b i j z => ?_, h.2⟩
  rw [← h.1 b i j z]
  exact if_neg (fun e => z ⟨e.1, by omega, by omega⟩)
theorem stkR.ag {r n : Nat} {so wt : Nat → Nat} {μ μ' : sM} (h : stkR μ n so wt) (g : agR r μ μ') : stkR μ' n so wt := by
  refine ⟨by rw [g.1 41 0 3 (by omega)]; exact h.1, h.2.1, fun k hk => ?_⟩
  rw [g.1 43 0 k (by omega), g.1 44 0 k (by omega)]
  exact h.2.2 k hk
theorem tabR.ag {r u : Nat} {T : tT} {μ μ' : sM} (h : tabR μ u T) (g : agR r μ μ') (hu : u ≠ r) : tabR μ' u T := by
  obtain ⟨h1, h2, h3⟩ := h
  refine ⟨fun c hc => ?_, fun c i hc hi => ?_, fun k hk => ?_⟩
  · rw [g.1 42 0 _ (by omega)]; exact h1 c hc
  · rw [g.1 42 0 _ (by omega)]; exact h2 c i hc hi
  · rw [g.1 42 0 _ (by omega)]; exact h3 k hk
section RG
variable {d t n k c s a b r u o i : Nat} {μ : sM} {Q : sQ} {so wt : Nat → Nat} {T : tT} {x y z : Int32}
theorem nI_67a (r c : Nat) : 62 * nI r + 7 * nI c + 1 = nI (62 * r + 7 * c + 1) := by
  rw [nI_67, nI_1]
theorem tr_put (hT : tabR μ r T) (hc : c < 8) (hz : zS T c < 6) : tabR (m_i (m_i μ 42 0 (62 * r + 7 * c + 1 + zS T c) (nI k)) 42 0 (62 * r + 7 * c) (nI (zS T c + 1))) r (pcT T k c) := by
  refine ⟨fun c' hc' => ?_, fun c' i hc' hi => ?_, fun j hj => ?_⟩
  · show _ = nI (updN (zS T) c (zS T c + 1) c')
    by_cases e : c' = c
    · subst e; rw [mi_s, updN_s]
    · rw [mi_k (by omega), mi_k (by omega), updN_n e]; exact hT.1 c' hc'
  · show _ = if i < updN (zS T) c (zS T c + 1) c' then nI (if c' = c ∧ i = zS T c then k else zA T c' i) else -1
    rw [mi_k (by omega)]
    by_cases e : c' = c
    · subst e
      rw [updN_s]
      by_cases e2 : i = zS T c'
      · subst e2; rw [mi_s, if_pos (by omega), if_pos ⟨rfl, rfl⟩]
      · rw [mi_k (by omega), hT.2.1 c' i hc' hi, if_neg (fun z : c' = c' ∧ i = zS T c' => e2 z.2)]
        by_cases e3 : i < zS T c'
        · rw [if_pos e3, if_pos (by omega)]
        · rw [if_neg e3, if_neg (by omega)]
    · rw [mi_k (by omega), updN_n e, hT.2.1 c' i hc' hi, if_neg (fun z : c' = c ∧ i = zS T c => e z.1)]
  · rw [mi_k (by omega), mi_k (by omega)]; exact hT.2.2 j hj
theorem r12_putOn (hx : x = nI r) (hy : y = nI k) (hz : z = nI c) (hr : r < 108) (hT : tabR μ r T) (hc : c < 8) (hsz : zS T c < 6) (h : ∀ μ', agR r μ μ' → tabR μ' r (pcT T k c) → Q 0 0 (0, 0) μ') : Call (d + 1) n12_putOn [sR 41 0, sI x, sI y, sI z] μ Q := by
  subst hx; subst hy; subst hz
  have e1 : (62 * nI r + 7 * nI c).toNatClampNeg = 62 * r + 7 * c := by rw [nI_67, nI_clamp (by omega)]
  have e2 : μ.1 42 0 (62 * nI r + 7 * nI c).toNatClampNeg = nI (zS T c) := by rw [e1]; exact hT.1 c hc
  have e3 : 62 * nI r + 7 * nI c + 1 + μ.1 42 0 (62 * nI r + 7 * nI c).toNatClampNeg = nI (62 * r + 7 * c + 1 + zS T c) := by rw [e2, nI_62]
  refine call_go (cd := k12_putOn) 60 rfl rfl ?_
  refine And.intro (by rw [nI_67]; exact vp_in_nI (by omega) (by decide)) ?_
  refine And.intro (by rw [e3]; exact vp_in_nI (by omega) (by decide)) ?_
  refine And.intro (by rw [nI_67]; exact vp_in_nI (by omega) (by decide)) ?_
  refine And.intro (by rw [nI_67]; exact vp_in_nI (by omega) (by decide)) ?_
  rw [e3, e1, nI_clamp (by omega), mi_k (by omega), hT.1 c hc, nI_1]
  exact h _ ((agR.rf.mi (by omega)).mi (by omega)) (tr_put hT hc hsz)
theorem tr_up1 (hT : tabR μ r T) (hk : k < 6) (e : zB T k ≠ 9) : tabR (m_i μ 42 0 (62 * r + 56 + k) (-1)) r (upT T k) := by
  have eT : upT T k = (zS T, zA T, updN (zB T) k 9, zC T, zI T, updN (zN T) (zB T k) 9) := if_neg e
  rw [eT]
  refine ⟨fun c' hc' => ?_, fun c' i hc' hi => ?_, fun j hj => ?_⟩
  · rw [mi_k (by omega)]; exact hT.1 c' hc'
  · rw [mi_k (by omega)]; exact hT.2.1 c' i hc' hi
  · show _ = if updN (zB T) k 9 j = 9 then -1 else nI (updN (zB T) k 9 j)
    by_cases e2 : j = k
    · subst e2; rw [mi_s, updN_s, if_pos rfl]
    · rw [mi_k (by omega), updN_n e2]; exact hT.2.2 j hj
theorem tr_up2 (hT : tabR μ r T) (hw : wfT so n T) (hn : n ≤ 6) (hk : k < n) (e : zB T k = 9) : tabR (m_i (m_i μ 42 0 (62 * r + 7 * zC T k) (nI (zS T (zC T k) - 1))) 42 0 (62 * r + 7 * zC T k + 1 + (zS T (zC T k) - 1)) (-1)) r (upT T k) := by
  have eT : upT T k = (updN (zS T) (zC T k) (zS T (zC T k) - 1), zA T, zB T, zC T, zI T, zN T) := if_pos e
  have hq := hw.2.1 k hk e
  have hz := wf_size hw hq.1
  rw [eT]
  refine ⟨fun c' hc' => ?_, fun c' i hc' hi => ?_, fun j hj => ?_⟩
  · show _ = nI (updN (zS T) (zC T k) (zS T (zC T k) - 1) c')
    rw [mi_k (by omega)]
    by_cases e2 : c' = zC T k
    · subst e2; rw [mi_s, updN_s]
    · rw [mi_k (by omega), updN_n e2]; exact hT.1 c' hc'
  · show _ = if i < updN (zS T) (zC T k) (zS T (zC T k) - 1) c' then nI (zA T c' i) else -1
    by_cases e2 : c' = zC T k
    · subst e2
      rw [updN_s]
      by_cases e3 : i = zS T (zC T k) - 1
      · subst e3; rw [mi_s, if_neg (by omega)]
      · rw [mi_k (by omega), mi_k (by omega), hT.2.1 _ i hc' hi]
        by_cases e4 : i < zS T (zC T k)
        · rw [if_pos e4, if_pos (by omega)]
        · rw [if_neg e4, if_neg (by omega)]
    · rw [mi_k (by omega), mi_k (by omega), updN_n e2]; exact hT.2.1 c' i hc' hi
  · rw [mi_k (by omega), mi_k (by omega)]; exact hT.2.2 j hj
theorem r12_takeUp (hx : x = nI r) (hy : y = nI k) (hw : wfT so n T) (hn : n ≤ 6) (hr : r < 108) (hT : tabR μ r T) (hk : k < n) (h : ∀ μ', agR r μ μ' → tabR μ' r (upT T k) → Q 0 0 (0, 0) μ') : Call (d + 3) n12_takeUp [sR 41 0, sI x, sI y] μ Q := by
  subst hx; subst hy
  refine call_go (cd := k12_takeUp) 60 rfl rfl ?_
  refine r12_boxOf rfl rfl hr hT (by omega) ?_
  by_cases e : zB T k = 9
  · have hq := hw.2.1 k hk e
    have hz := wf_size hw hq.1
    have ec : ccT T k = zC T k := if_pos e
    refine brT (by rw [e]; decide) ?_
    refine r12_cellOf rfl rfl hw hn hr hT hk ?_
    rw [ec]
    have e1 : (62 * nI r + 7 * nI (zC T k)).toNatClampNeg = 62 * r + 7 * zC T k := by rw [nI_67, nI_clamp (by omega)]
    have e4 : nI (zS T (zC T k)) - 1 = nI (zS T (zC T k) - 1) := nI_sub (a := zS T (zC T k)) (b := 1) (by omega)
    refine And.intro (by rw [nI_67]; exact vp_in_nI (by omega) (by decide)) ?_
    refine And.intro (by rw [nI_67]; exact vp_in_nI (by omega) (by decide)) ?_
    refine And.intro (by rw [nI_67]; exact vp_in_nI (by omega) (by decide)) ?_
    have e5 : 62 * nI r + 7 * nI (zC T k) + 1 + (m_i μ 42 0 (62 * nI r + 7 * nI (zC T k)).toNatClampNeg (μ.1 42 0 (62 * nI r + 7 * nI (zC T k)).toNatClampNeg - 1)).1 42 0 (62 * nI r + 7 * nI (zC T k)).toNatClampNeg = nI (62 * r + 7 * zC T k + 1 + (zS T (zC T k) - 1)) := by
      rw [mi_s, e1, hT.1 _ hq.1, e4, nI_62]
    refine And.intro (by rw [e5]; exact vp_in_nI (by omega) (by decide)) ?_
    rw [e5, e1, nI_clamp (by omega), hT.1 _ hq.1, e4]
    exact h _ ((agR.rf.mi (by omega)).mi (by omega)) (tr_up2 hT hw hn hk e)
  · have hb := hw.2.2.1 k hk e
    refine brF (by simp (disch := first | omega | (simp (disch := omega) only [nI_toInt, Int32.reduceToInt, i_sub, i_add, i_mul]; omega)) only [m9_n e, iNONE, i_lt, i_le, i_eq, i_in, nI_toInt, Int32.reduceToInt, i_sub, i_add, i_mul]; omega) ?_
    refine And.intro (by rw [nI_56]; exact vp_in_nI (by omega) (by decide)) ?_
    rw [nI_56, nI_clamp (by omega)]
    exact h _ (agR.rf.mi (by omega)) (tr_up1 hT (by omega) e)
theorem go_same (hw : wfT so n T) (hk : k < n) (e : zB T k = 9) (hc : zI T k + 1 = zS T (zC T k)) : eqT n T (goT T k (zC T k)) := by
  have hq := hw.2.1 k hk e
  have eT : upT T k = (updN (zS T) (zC T k) (zS T (zC T k) - 1), zA T, zB T, zC T, zI T, zN T) := if_pos e
  have eG : goT T k (zC T k) = pcT (upT T k) k (zC T k) := if_pos hq.1
  rw [eG, eT]
  refine ⟨fun c hc8 => ?_, fun c i hc8 hi => ?_, fun j => ⟨rfl, rfl⟩, fun j hj hb => ?_⟩
  · show updN (updN (zS T) (zC T k) (zS T (zC T k) - 1)) (zC T k) (updN (zS T) (zC T k) (zS T (zC T k) - 1) (zC T k) + 1) c = zS T c
    by_cases e2 : c = zC T k
    · subst e2; rw [updN_s, updN_s]; omega
    · rw [updN_n e2, updN_n e2]
  · show (if c = zC T k ∧ i = updN (zS T) (zC T k) (zS T (zC T k) - 1) (zC T k) then k else zA T c i) = zA T c i
    rw [updN_s]
    by_cases e2 : c = zC T k ∧ i = zS T (zC T k) - 1
    · rw [if_pos e2, e2.1, e2.2, ← hq.2.2]
      rw [hq.2.2, show zS T (zC T k) - 1 = zI T k by omega]
      exact hq.2.2.symm
    · rw [if_neg e2]
  · show updN (zC T) k (zC T k) j = zC T j ∧ updN (zI T) k (updN (zS T) (zC T k) (zS T (zC T k) - 1) (zC T k)) j = zI T j
    by_cases e2 : j = k
    · subst e2; rw [updN_s, updN_s, updN_s]; exact ⟨rfl, by omega⟩
    · rw [updN_n e2, updN_n e2]; exact ⟨rfl, rfl⟩
theorem r12_doMove (hx : x = nI r) (hy : y = nI k) (hz : z = nI a) (hw : wfT so n T) (hn : n ≤ 6) (hr : r < 108) (hT : tabR μ r T) (hk : k < n) (ha : a < 14) (hg : cgT so n T k a) (h : ∀ μ', agR r μ μ' → tabR μ' r (goT T k a) → Q 0 0 (0, 0) μ') : Call (d + 4) n12_doMove [sR 41 0, sI x, sI y, sI z] μ Q := by
  subst hx; subst hy; subst hz
  have hwg := wf_go hw hn hk ha hg
  have hfr := fr_clear hg.1
  unfold goT at h hwg
  by_cases e : a < 8
  · rw [if_pos e] at h hwg
    have hz := wf_size hwg e
    have hz : updN (zS (upT T k)) a (zS (upT T k) a + 1) a ≤ n := hz
    rw [updN_s] at hz
    have fin : Run k12_doMove (Call (d + 3)) Q 52 [some (sR 41 0), some (sI (nI r)), some (sI (nI k)), some (sI (nI a))] [] μ := by
      refine run_go 30 ?_
      refine r12_takeUp rfl rfl hw hn hr hT hk (fun μ' g1 g2 => ?_)
      refine r12_putOn rfl rfl rfl hr g2 e (by omega) (fun μ'' g3 g4 => ?_)
      exact h μ'' (g1.tr g3) g4
    refine call_go (cd := k12_doMove) 3 rfl rfl ?_
    refine brT (by simp (disch := first | omega | (simp (disch := omega) only [nI_toInt, Int32.reduceToInt, i_sub, i_add, i_mul]; omega)) only [iNONE, i_lt, i_le, i_eq, i_in, nI_toInt, Int32.reduceToInt, i_sub, i_add, i_mul]; omega) ?_
    refine run_go 5 ?_
    refine r12_boxOf rfl rfl hr hT (by omega) ?_
    by_cases e2 : zB T k = 9
    · have hq := hw.2.1 k hk e2
      have ec : ccT T k = zC T k := if_pos e2
      refine brF (by rw [e2]; decide) ?_
      refine run_go 6 ?_
      refine r12_cellOf rfl rfl hw hn hr hT hk ?_
      rw [ec]
      by_cases e3 : zC T k = a
      · refine brT (by rw [e3]) ?_
        refine run_go 1 ?_
        have g := tabR.eq hT (go_same hw hk e2 (hfr e2))
        unfold goT at g
        rw [if_pos hq.1, e3] at g
        exact h μ agR.rf g
      · refine brF (fun z => e3 ((nI_eq (by omega) (by omega)).mp z)) ?_
        exact fin
    · have hb := hw.2.2.1 k hk e2
      refine brT (by simp (disch := first | omega | (simp (disch := omega) only [nI_toInt, Int32.reduceToInt, i_sub, i_add, i_mul]; omega)) only [m9_n e2, iNONE, i_lt, i_le, i_eq, i_in, nI_toInt, Int32.reduceToInt, i_sub, i_add, i_mul]; omega) ?_
      exact fin
  · rw [if_neg e] at h
    refine call_go (cd := k12_doMove) 60 rfl rfl ?_
    refine brF (by simp (disch := first | omega | (simp (disch := omega) only [nI_toInt, Int32.reduceToInt, i_sub, i_add, i_mul]; omega)) only [iNONE, i_lt, i_le, i_eq, i_in, nI_toInt, Int32.reduceToInt, i_sub, i_add, i_mul]; omega) ?_
    refine r12_takeUp rfl rfl hw hn hr hT hk (fun μ' g1 g2 => ?_)
    have e2 : nI a - 8 = nI (a - 8) := nI_sub (a := a) (b := 8) (by omega)
    refine And.intro (by rw [nI_56]; exact vp_in_nI (by omega) (by decide)) ?_
    rw [nI_56, nI_clamp (by omega), e2]
    refine h _ (g1.mi (by omega)) ?_
    refine ⟨fun c' hc' => ?_, fun c' i hc' hi => ?_, fun j hj => ?_⟩
    · rw [mi_k (by omega)]; exact g2.1 c' hc'
    · rw [mi_k (by omega)]; exact g2.2.1 c' i hc' hi
    · show _ = if updN (zB (upT T k)) k (a - 8) j = 9 then -1 else nI (updN (zB (upT T k)) k (a - 8) j)
      by_cases e3 : j = k
      · subst e3; rw [mi_s, updN_s, if_neg (by omega)]
      · rw [mi_k (by omega), updN_n e3]; exact g2.2.2 j hj
end RG
