/-! plans: the class -/
def mvT (so : Nat → Nat) (n : Nat) (T : tT) (rc : Nat → Nat) (k a : Nat) : Prop := cgT so n T k a ∧ (rhT T (rc 0) k a ∨ rhT T (rc 1) k a)
noncomputable def f1T (so : Nat → Nat) (n : Nat) (rc : Nat → Nat) (o : Nat) (T : tT) : Nat := fstN (fun p => mvT so n T rc (p / 14) (p % 14) ∧ enT so n (goT T (p / 14) (p % 14)) o) (14 * n)
noncomputable def f2T (so : Nat → Nat) (n : Nat) (rc : Nat → Nat) (o : Nat) (T : tT) : Nat := fstN (fun p => mvT so n T rc (p / 14) (p % 14) ∧ ¬ f1T so n rc o (goT T (p / 14) (p % 14)) = 99) (14 * n)
def pvT (f : Nat) : Int32 := if f = 99 then nONE else nI (16 * (f / 14) + f % 14)
section OP
variable {d n k c s a b r u o i rel κ lr t p j S m m' : Nat} {μ μ' μ'' : sM} {Q : sQ} {so wt rc : Nat → Nat} {T T' : tT} {tb : Nat → tT} {l : lT} {x y z w v : Int32} {ξ : Nat → Nat → Int32}
theorem pv_n (h : k < n) (hn : n ≤ 6) (ha : a < 14) : pvT (14 * k + a) = 16 * nI k + nI a := by
  unfold pvT
  rw [if_neg (by omega), show (14 * k + a) / 14 = k by omega, show (14 * k + a) % 14 = a by omega]
  show nI (16 * k + a) = nI 16 * nI k + nI a
  rw [nI_mul, nI_add]
theorem pv_none {f : Nat} (hf : f = 99 ∨ f < 84) : pvT f = nONE ↔ f = 99 := by
  unfold pvT
  constructor
  · intro e
    by_cases q : f = 99
    · exact q
    · rw [if_neg q] at e; exact absurd e (by simp (disch := first | omega | (simp (disch := omega) only [nI_toInt, Int32.reduceToInt, i_sub, i_add, i_mul]; omega)) only [iNONE, i_lt, i_le, i_eq, i_in, nI_toInt, Int32.reduceToInt, i_sub, i_add, i_mul]; omega)
  · intro e; rw [if_pos e]
def rcC (μ : sM) (rc : Nat → Nat) : Prop := ∀ a, a < 2 → rc a < 256 ∧ μ.1 15 0 a = nI (rc a)
theorem rcC.ag (h : rcC μ rc) (g : agT t μ μ') : rcC μ' rc := fun a ha => ⟨(h a ha).1, (g.1 15 0 a (by omega)).trans (h a ha).2⟩
/-- from a thing's move on the trial table, and home again -/
theorem c0_leads1 (ho : o < 96) (hw : wfT so n T) (hS : stkC μ n so wt) (hT : tabC μ 1 n T) (hk : k < n) (ha : a < 14) (hg : cgT so n T k a) (h1 : enT so n (goT T k a) o → ∀ μ', agT 1 μ μ' → tabC μ' 1 n T → Q 1 0 (0, 0) μ') (h2 : ¬ enT so n (goT T k a) o → ∀ μ', agT 1 μ μ' → tabC μ' 1 n T → Q 0 0 (0, 0) μ') : Call (d + 5) n0_leads [sR 14 0, sI (nI o), sI (nI 1), sI (nI k), sI (nI a)] μ Q := by
  have hn := hS.2.1
  have hG := cg_go hw hg ha
  have hH := go_home hw hn hk ha hg
  have hw' := wf_go hw hn hk ha hg
  have hs := wf_spot hw hn hk
  refine call_go (cd := k0_leads) 60 rfl rfl ?_
  refine c9_spotOf rfl (by omega) ?_
  rw [(hT.1 k hk).1]
  refine c9_go rfl rfl hw hn hT hk hG.1 hG.2 (fun μ1 a1 t1 => ?_)
  refine brnT rfl ?_
  refine c3_isEnd rfl ho hw' (hS.ag a1) t1 (fun e => ?_) (fun e => ?_)
  · refine c9_go rfl rfl hw' hn t1 hk hH.1 hH.2.1 (fun μ2 a2 t2 => ?_)
    exact ⟨Or.inr rfl, h1 e μ2 (a1.tr a2) (t2.eq (hw.eq hH.2.2) (hH.2.2.sy hw))⟩
  · refine c9_go rfl rfl hw' hn t1 hk hH.1 hH.2.1 (fun μ2 a2 t2 => ?_)
    exact ⟨Or.inl rfl, h2 e μ2 (a1.tr a2) (t2.eq (hw.eq hH.2.2) (hH.2.2.sy hw))⟩
/-- the least first move -/
theorem c0_lfm {P : Nat → Nat → Prop} (hm : m = 1 ∨ m = 2) (ho : o < 96) (hw : wfT so n T) (hS : stkC μ n so wt) (hrc : rcC μ rc) (hT : tabC μ 1 n T)
    (hl : ∀ k a μ' (Q : sQ), k < n → a < 14 → mvT so n T rc k a → agT 1 μ μ' → tabC μ' 1 n T → (P k a → ∀ μ'', agT 1 μ' μ'' → tabC μ'' 1 n T → Q 1 0 (0, 0) μ'') → (¬ P k a → ∀ μ'', agT 1 μ' μ'' → tabC μ'' 1 n T → Q 0 0 (0, 0) μ'') → Call (d + 5) n0_leads [sR 14 0, sI (nI o), sI (nI m), sI (nI k), sI (nI a)] μ' Q)
    (hp : m = 1 → ∀ k a, k < n → a < 14 → mvT so n T rc k a → P k a → ceT so o k)
    (h : ∀ μ', agT 1 μ μ' → tabC μ' 1 n T → Q (pvT (fstN (fun p => mvT so n T rc (p / 14) (p % 14) ∧ P (p / 14) (p % 14)) (14 * n))) 0 (0, 0) μ') : Call (d + 6) n0_leastFirstMove [sR 14 0, sI (nI o), sI (nI m)] μ Q := by
  have hn := hS.2.1
  refine call_go (cd := k0_leastFirstMove) 2 rfl rfl ?_
  refine loopC (cd := k0_leastFirstMove) (d := d + 5) (Q := Q) n (fun i ls μ' => ls = [some (sR 14 0), some (sI (nI o)), some (sI (nI m)), some (sI (nI i))] ∧ agT 1 μ μ' ∧ tabC μ' 1 n T ∧ ∀ p, p < 14 * i → ¬ (mvT so n T rc (p / 14) (p % 14) ∧ P (p / 14) (p % 14))) 2 0 _ _ (Nat.zero_le _) ⟨rfl, agT.rf, hT, fun p hp => absurd hp (Nat.not_lt_zero p)⟩ ?_
  rintro k ls μ1 hk ⟨rfl, A1, T1, N1⟩ kk
  have S1 := hS.ag A1
  refine run_go 2 ?_
  refine brF (by simp (disch := first | omega | (simp (disch := omega) only [nI_toInt, Int32.reduceToInt, i_sub, i_add, i_mul]; omega)) only [iNONE, i_lt, i_le, i_eq, i_in, nI_toInt, Int32.reduceToInt, i_sub, i_add, i_mul]; omega) ?_
  refine run_go 5 ?_
  refine c8_size S1 ?_
  by_cases q : k = n
  · subst q
    refine brT (by simp (disch := first | omega | (simp (disch := omega) only [nI_toInt, Int32.reduceToInt, i_sub, i_add, i_mul]; omega)) only [iNONE, i_lt, i_le, i_eq, i_in, nI_toInt, Int32.reduceToInt, i_sub, i_add, i_mul]; omega) ?_
    refine run_go 10 ?_
    have h := h _ A1 T1
    rw [fstN_no N1] at h
    exact h
  · refine brF (by simp (disch := first | omega | (simp (disch := omega) only [nI_toInt, Int32.reduceToInt, i_sub, i_add, i_mul]; omega)) only [iNONE, i_lt, i_le, i_eq, i_in, nI_toInt, Int32.reduceToInt, i_sub, i_add, i_mul]; omega) ?_
    have hk' : k < n := by omega
    -- the inner loop, by whether the thing may help
    have inner : ∀ e : Nat, (e = 0 → ∀ a, a < 14 → ¬ (mvT so n T rc k a ∧ P k a)) → e < 2 → Run k0_leastFirstMove (Call (d + 5)) Q 55 [some (sR 14 0), some (sI (nI o)), some (sI (nI m)), some (sI (nI k)), some (sI (nI e)), some (sI 0)] [] μ1 := by
      intro e he he2
      have next : ∀ (μ' : sM) (a : Nat) (r : sO), agT 1 μ μ' → tabC μ' 1 n T → (∀ a, a < 14 → ¬ (mvT so n T rc k a ∧ P k a)) → Run k0_leastFirstMove (Call (d + 5)) Q 135 ([some (sR 14 0), some (sI (nI o)), some (sI (nI m)), some (sI (nI k))] ++ r) [] μ' := by
        intro μ' a r A' T' N'
        refine run_go 2 ?_
        refine run_sub (kk [some (sR 14 0), some (sI (nI o)), some (sI (nI m)), some (sI (nI k + 1))] _ hk' ⟨by rw [nI_1], A', T', fun p hp => ?_⟩) (subL.app _ r)
        by_cases q2 : p < 14 * k
        · exact N1 p q2
        · rw [show p / 14 = k by omega]
          exact N' (p % 14) (Nat.mod_lt _ (by decide))
      by_cases e0 : e = 0
      · subst e0
        refine run_go 2 ?_
        refine brT rfl ?_
        exact next μ1 0 [some (sI (nI 0)), some (sI 0)] A1 T1 (he rfl)
      · have e1 : e = 1 := by omega
        subst e1
        refine loopC (cd := k0_leastFirstMove) (d := d + 5) (Q := Q) 14 (fun a ls μ' => ls = [some (sR 14 0), some (sI (nI o)), some (sI (nI m)), some (sI (nI k)), some (sI (nI 1)), some (sI (nI a))] ∧ agT 1 μ μ' ∧ tabC μ' 1 n T ∧ ∀ a', a' < a → ¬ (mvT so n T rc k a' ∧ P k a')) 55 0 _ _ (Nat.zero_le _) ⟨rfl, A1, T1, fun p hp => absurd hp (Nat.not_lt_zero p)⟩ ?_
        rintro a ls μ2 ha ⟨rfl, A2, T2, N2⟩ kk2
        refine run_go 2 ?_
        refine brF (by decide) ?_
        refine run_go 3 ?_
        by_cases q3 : a = 14
        · subst q3
          refine brT (by simp (disch := first | omega | (simp (disch := omega) only [nI_toInt, Int32.reduceToInt, i_sub, i_add, i_mul]; omega)) only [iNONE, i_lt, i_le, i_eq, i_in, nI_toInt, Int32.reduceToInt, i_sub, i_add, i_mul]; omega) ?_
          exact next μ2 0 [some (sI (nI 1)), some (sI (nI 14))] A2 T2 N2
        · refine brF (by simp (disch := first | omega | (simp (disch := omega) only [nI_toInt, Int32.reduceToInt, i_sub, i_add, i_mul]; omega)) only [iNONE, i_lt, i_le, i_eq, i_in, nI_toInt, Int32.reduceToInt, i_sub, i_add, i_mul]; omega) ?_
          have ha' : a < 14 := by omega
          have S2 := hS.ag A2
          have r2 := hrc.ag A2
          have no : ∀ v μ3, agT 1 μ μ3 → tabC μ3 1 n T → ¬ (mvT so n T rc k a ∧ P k a) → Run k0_leastFirstMove (Call (d + 5)) Q 129 [some (sR 14 0), some (sI (nI o)), some (sI (nI m)), some (sI (nI k)), some (sI (nI 1)), some (sI (nI a)), some (sI v)] [] μ3 := by
            intro v μ3 A3 T3 N3
            refine run_go 2 ?_
            refine run_sub (kk2 [some (sR 14 0), some (sI (nI o)), some (sI (nI m)), some (sI (nI k)), some (sI (nI 1)), some (sI (nI a + 1))] _ ha' ⟨by rw [nI_1], A3, T3, fun a' ha' => ?_⟩) (subL.app _ [some (sI v)])
            by_cases q4 : a' = a
            · subst q4; exact N3
            · exact N2 a' (by omega)
          have yes : mvT so n T rc k a → Run k0_leastFirstMove (Call (d + 5)) Q 104 [some (sR 14 0), some (sI (nI o)), some (sI (nI m)), some (sI (nI k)), some (sI (nI 1)), some (sI (nI a)), some (sI 1)] [] μ2 := by
            intro hmv
            refine run_go 2 ?_
            refine brF (by decide) ?_
            refine run_go 7 ?_
            refine hl k a μ2 _ hk' ha' hmv A2 T2 (fun e μ3 A3 T3 => ?_) (fun e μ3 A3 T3 => ?_)
            · refine brF (by decide) ?_
              refine run_go 10 ?_
              have h := h _ (A2.tr A3) T3
              rw [fstN_is (P := fun p => mvT so n T rc (p / 14) (p % 14) ∧ P (p / 14) (p % 14)) (v := 14 * k + a) (by rw [show (14 * k + a) / 14 = k by omega, show (14 * k + a) % 14 = a by omega]; exact ⟨hmv, e⟩) (fun p hp' => by
                by_cases q5 : p < 14 * k
                · exact N1 p q5
                · rw [show p / 14 = k by omega]
                  exact N2 (p % 14) (by omega)) (by omega) (by omega), pv_n hk' hn ha'] at h
              exact h
            · refine brT rfl ?_
              exact no 1 μ3 (A2.tr A3) T3 (fun z => e z.2)
          refine run_go 8 ?_
          refine c0_canDo (b := 0) rfl rfl rfl (by decide) hw S2 T2 hk' ha' (r2 0 (by decide)).2 (r2 0 (by decide)).1 (fun e => ?_) (fun e => ?_)
          · refine brnF (by decide) ?_
            refine run_go 3 ?_
            exact yes ⟨e.1, Or.inl e.2⟩
          · refine brnT rfl ?_
            refine run_go 8 ?_
            refine c0_canDo (b := 1) rfl rfl rfl (by decide) hw S2 T2 hk' ha' (r2 1 (by decide)).2 (r2 1 (by decide)).1 (fun e2 => ?_) (fun e2 => ?_)
            · refine brF (by decide) ?_
              refine run_go 3 ?_
              exact yes ⟨e2.1, Or.inr e2.2⟩
            · refine brT rfl ?_
              refine run_go 4 ?_
              refine brT rfl ?_
              refine no 0 μ2 A2 T2 (fun z => ?_)
              rcases z.1.2 with z2 | z2
              · exact e ⟨z.1.1, z2⟩
              · exact e2 ⟨z.1.1, z2⟩
    refine run_go 5 ?_
    refine c9_isFree rfl hw hn T1 hk' (fun e => ?_) (fun e => ?_)
    · refine brF (by decide) ?_
      refine run_go 3 ?_
      rcases hm with rfl | rfl
      · refine brF (by decide) ?_
        refine run_go 6 ?_
        refine c3_canEndBy rfl rfl ho S1 hk' (fun e2 => ?_) (fun e2 => ?_)
        · refine brF (by decide) ?_
          refine run_go 5 ?_
          exact inner 1 (fun z => by omega) (by decide)
        · refine brT rfl ?_
          refine run_go 4 ?_
          exact inner 0 (fun _ a ha z => e2 (hp rfl k a hk' ha z.1 z.2)) (by decide)
      · refine brT (by decide) ?_
        refine run_go 5 ?_
        exact inner 1 (fun z => by omega) (by decide)
    · refine brT rfl ?_
      refine run_go 4 ?_
      exact inner 0 (fun _ a ha z => e z.1.1.1) (by decide)
theorem f1_rg : f1T so n rc o T = 99 ∨ f1T so n rc o T < 14 * n ∨ 99 < 14 * n := by
  by_cases h : 14 * n ≤ 99
  · rcases fstN_sp (P := fun p => mvT so n T rc (p / 14) (p % 14) ∧ enT so n (goT T (p / 14) (p % 14)) o) h with z | z
    · exact Or.inl z.1
    · exact Or.inr (Or.inl z.1)
  · exact Or.inr (Or.inr (by omega))
theorem c0_lfm1 (ho : o < 96) (hw : wfT so n T) (hS : stkC μ n so wt) (hrc : rcC μ rc) (hT : tabC μ 1 n T) (hne : ¬ enT so n T o) (h : ∀ μ', agT 1 μ μ' → tabC μ' 1 n T → Q (pvT (f1T so n rc o T)) 0 (0, 0) μ') : Call (d + 6) n0_leastFirstMove [sR 14 0, sI (nI o), sI (nI 1)] μ Q := by
  refine c0_lfm (m := 1) (P := fun k a => enT so n (goT T k a) o) (Or.inl rfl) ho hw hS hrc hT (fun k a μ' Q hk ha hmv A T' q1 q2 => ?_) (fun _ k a hk ha hmv e => ?_) h
  · exact c0_leads1 ho hw (hS.ag A) T' hk ha hmv.1 q1 q2
  · exact Classical.byContradiction (fun z => prune hw hk hmv.1 z hne e)
theorem c0_lfm2 (ho : o < 96) (hw : wfT so n T) (hS : stkC μ n so wt) (hrc : rcC μ rc) (hT : tabC μ 1 n T) (hne : ∀ k a, k < n → a < 14 → mvT so n T rc k a → ¬ enT so n (goT T k a) o) (h : ∀ μ', agT 1 μ μ' → tabC μ' 1 n T → Q (pvT (f2T so n rc o T)) 0 (0, 0) μ') : Call (d + 8) n0_leastFirstMove [sR 14 0, sI (nI o), sI (nI 2)] μ Q := by
  have hn := hS.2.1
  refine c0_lfm (d := d + 2) (m := 2) (P := fun k a => ¬ f1T so n rc o (goT T k a) = 99) (Or.inr rfl) ho hw hS hrc hT (fun k a μ' Q hk ha hmv A T' q1 q2 => ?_) (fun z => by omega) h
  have hG := cg_go hw hmv.1 ha
  have hH := go_home hw hn hk ha hmv.1
  have hw' := wf_go hw hn hk ha hmv.1
  have S' := hS.ag A
  refine call_go (cd := k0_leads) 60 rfl rfl ?_
  refine c9_spotOf rfl (by omega) ?_
  rw [(T'.1 k hk).1]
  refine c9_go rfl rfl hw hn T' hk hG.1 hG.2 (fun μ1 a1 t1 => ?_)
  refine brnF (by decide) ?_
  refine c0_lfm1 ho hw' (S'.ag a1) ((hrc.ag A).ag a1) t1 (hne k a hk ha hmv) (fun μ2 a2 t2 => ?_)
  have rg := f1_rg (so := so) (n := n) (rc := rc) (o := o) (T := goT T k a)
  have A12 := a1.tr a2
  by_cases e : f1T so n rc o (goT T k a) = 99
  · refine brT ((pv_none (by omega)).mpr e) ?_
    refine c9_go rfl rfl hw' hn t2 hk hH.1 hH.2.1 (fun μ3 a3 t3 => ?_)
    exact ⟨Or.inl rfl, q2 (fun z => z e) μ3 (A12.tr a3) (t3.eq (hw.eq hH.2.2) (hH.2.2.sy hw))⟩
  · refine brF (fun z => e ((pv_none (by omega)).mp z)) ?_
    refine c9_go rfl rfl hw' hn t2 hk hH.1 hH.2.1 (fun μ3 a3 t3 => ?_)
    exact ⟨Or.inr rfl, q1 e μ3 (A12.tr a3) (t3.eq (hw.eq hH.2.2) (hH.2.2.sy hw))⟩
end OP
