/-! what is taken from the tape -/
def nxT' (tl : Nat) (tp : Nat → Nat) (s : Nat) : Nat := xS tl tp (xE tl tp s)
def wrM (μ : sM) (c : Int32) (s : Nat) : sM := m_i (m_i μ 33 0 6 c) 33 0 7 (nI s)
def bdM (μ : sM) (c : Int32) (s : Nat) : sM := m_i (m_i μ 41 0 28 c) 41 0 29 (nI s)
noncomputable def iteC (P : Prop) (a b : Nat) : Nat := @ite Nat P (Classical.propDecidable P) a b
theorem iteC_t {P : Prop} {a b : Nat} (h : P) : iteC P a b = a := if_pos h
theorem iteC_f {P : Prop} {a b : Nat} (h : ¬ P) : iteC P a b = b := if_neg h
noncomputable def soV (tl : Nat) (tp : Nat → Nat) (s : Nat) : Nat := iteC (wdP tl tp s 2) 0 (iteC (wdP tl tp s 3) 1 (iteC (wdP tl tp s 4) 2 (iteC (wdP tl tp s 5) 3 9)))
noncomputable def reV (tl : Nat) (tp : Nat → Nat) (s : Nat) : Nat := iteC (wdP tl tp s 7) 0 (iteC (wdP tl tp s 8) 1 (iteC (wdP tl tp s 9) 2 9))
section OP
variable {d n k c s a b r u o i m p q t tl j w l : Nat} {tp : Nat → Nat} {μ μ' μ'' M : sM} {Q : sQ} {x y z v : Int32} {ξ : Nat → Nat → Int32}
theorem x_lt (h : xK tl tp s ≠ 0) (h5 : s ≤ tl) : s < tl ∧ xE tl tp s ≤ tl := by
  have hs : s < tl := by
    refine Classical.byContradiction (fun e => h ?_)
    unfold xK
    rw [xC_0 e, if_neg (by omega)]
  refine ⟨hs, ?_⟩
  by_cases c : xC tl tp s = 1 ∨ xC tl tp s = 2
  · exact (x_run c).2.1
  · rw [x_one c]; omega
theorem wd_k (h : wdP tl tp s w) : xK tl tp s ≠ 0 := by rw [h.1]; decide
theorem so_k (h : soV tl tp s ≠ 9) : xK tl tp s ≠ 0 ∧ soV tl tp s < 4 := by
  unfold soV at h ⊢
  by_cases c1 : wdP tl tp s 2
  · rw [iteC_t c1]; exact ⟨wd_k c1, by decide⟩
  · rw [iteC_f c1] at h ⊢
    by_cases c2 : wdP tl tp s 3
    · rw [iteC_t c2]; exact ⟨wd_k c2, by decide⟩
    · rw [iteC_f c2] at h ⊢
      by_cases c3 : wdP tl tp s 4
      · rw [iteC_t c3]; exact ⟨wd_k c3, by decide⟩
      · rw [iteC_f c3] at h ⊢
        by_cases c4 : wdP tl tp s 5
        · rw [iteC_t c4]; exact ⟨wd_k c4, by decide⟩
        · rw [iteC_f c4] at h; exact absurd rfl h
theorem re_k (h : reV tl tp s ≠ 9) : xK tl tp s ≠ 0 ∧ reV tl tp s < 3 := by
  unfold reV at h ⊢
  by_cases c1 : wdP tl tp s 7
  · rw [iteC_t c1]; exact ⟨wd_k c1, by decide⟩
  · rw [iteC_f c1] at h ⊢
    by_cases c2 : wdP tl tp s 8
    · rw [iteC_t c2]; exact ⟨wd_k c2, by decide⟩
    · rw [iteC_f c2] at h ⊢
      by_cases c3 : wdP tl tp s 9
      · rw [iteC_t c3]; exact ⟨wd_k c3, by decide⟩
      · rw [iteC_f c3] at h; exact absurd rfl h
theorem c4_wrong (hk : tkC μ tl tp s) (h : Q 0 0 (0, 0) (wrM μ x s)) : Call (d + 1) n4_wrong [sR 33 0, sI x] μ Q := by
  refine call_go (cd := k4_wrong) 20 rfl rfl ?_
  have e : (m_i μ 33 0 6 x).1 33 0 4 = nI s := (mi_k (by decide)).trans hk.2.2.1
  refine ⟨Or.inl rfl, ?_⟩
  rw [e]
  exact h
theorem c4_adv (hT : tpC μ tl tp) (hk : tkC μ tl tp s) (h0 : xK tl tp s ≠ 0) (h : ∀ μ', frm fTk μ μ' → μ'.2 = μ.2 → tkC μ' tl tp (nxT' tl tp s) → Q 0 0 (0, 0) μ') : Call (d + 2) n4_advance [sR 33 0] μ Q :=
  c4_advance hT (x_lt h0 hk.1).2 hk.2.2.2 h
theorem c4_taken (hT : tpC μ tl tp) (hk : tkC μ tl tp s) (h1 : x = nONE → Q nONE 0 (0, 0) (wrM μ 1 s)) (h2 : x ≠ nONE → xK tl tp s ≠ 0 ∧ ∀ μ', frm fTk μ μ' → μ'.2 = μ.2 → tkC μ' tl tp (nxT' tl tp s) → Q x 0 (0, 0) μ') : Call (d + 3) n4_taken [sR 33 0, sI x] μ Q := by
  refine call_go (cd := k4_taken) 20 rfl rfl ?_
  by_cases e : x = nONE
  · refine brnT e ?_
    refine c4_wrong hk ?_
    rw [e]
    exact h1 e
  · refine brnF e ?_
    refine c4_adv hT hk (h2 e).1 (fun μ' F E K => ?_)
    exact (h2 e).2 μ' F E K
theorem nNO {k : Nat} (h : k < 100000) : nI k ≠ nONE := fun z => absurd z (by simp (disch := first | omega | (simp (disch := omega) only [nI_toInt, Int32.reduceToInt, i_sub, i_add, i_mul]; omega)) only [iNONE, i_lt, i_le, i_eq, i_in, nI_toInt, Int32.reduceToInt, i_sub, i_add, i_mul]; omega)
theorem c4_takeNumber (hx : x = nI m) (hm : m ≤ 200) (hT : tpC μ tl tp) (hk : tkC μ tl tp s) (h1 : xK tl tp s = 2 → nuV tl tp s ≤ m → ∀ μ', frm fTk μ μ' → μ'.2 = μ.2 → tkC μ' tl tp (nxT' tl tp s) → Q (nI (nuV tl tp s)) 0 (0, 0) μ') (h2 : xK tl tp s = 2 → m < nuV tl tp s → Q nONE 0 (0, 0) (wrM μ 2 s)) (h3 : xK tl tp s ≠ 2 → Q nONE 0 (0, 0) (wrM μ 1 s)) : Call (d + 4) n4_takeNumber [sR 33 0, sI x] μ Q := by
  subst hx
  have xk : xK tl tp s ≤ 5 := by
    have := xC_le (tl := tl) (tp := tp) (s := s)
    unfold xK
    split <;> omega
  refine call_go (cd := k4_takeNumber) 30 rfl rfl ?_
  by_cases e : xK tl tp s = 2
  · have nl := nu_lt e
    refine brnT (by rw [hk.2.1, e]; rfl) ?_
    refine c4_numberTold hT hk e ?_
    by_cases e2 : nuV tl tp s ≤ m
    · refine brT (by simp (disch := first | omega | (simp (disch := omega) only [nI_toInt, Int32.reduceToInt, i_sub, i_add, i_mul]; omega)) only [iNONE, i_lt, i_le, i_eq, i_in, nI_toInt, Int32.reduceToInt, i_sub, i_add, i_mul]; omega) ?_
      refine c4_taken hT hk (fun z => absurd z (nNO (by omega))) (fun _ => ⟨by omega, fun μ' F E K => ?_⟩)
      exact h1 e e2 μ' F E K
    · refine brF (by simp (disch := first | omega | (simp (disch := omega) only [nI_toInt, Int32.reduceToInt, i_sub, i_add, i_mul]; omega)) only [iNONE, i_lt, i_le, i_eq, i_in, nI_toInt, Int32.reduceToInt, i_sub, i_add, i_mul]; omega) ?_
      refine c4_wrong hk ?_
      exact h2 e (by omega)
  · refine brnF (by rw [hk.2.1]; exact (by simp (disch := first | omega | (simp (disch := omega) only [nI_toInt, Int32.reduceToInt, i_sub, i_add, i_mul]; omega)) only [iNONE, i_lt, i_le, i_eq, i_in, nI_toInt, Int32.reduceToInt, i_sub, i_add, i_mul]; omega)) ?_
    refine brT (by exact (by simp (disch := first | omega | (simp (disch := omega) only [nI_toInt, Int32.reduceToInt, i_sub, i_add, i_mul]; omega)) only [iNONE, i_lt, i_le, i_eq, i_in, nI_toInt, Int32.reduceToInt, i_sub, i_add, i_mul]; omega)) ?_
    refine c4_taken hT hk (fun _ => ?_) (fun z => absurd rfl z)
    exact h3 e
theorem c4_takeStop (hT : tpC μ tl tp) (hk : tkC μ tl tp s) (h1 : xK tl tp s = 3 → ∀ μ', frm fTk μ μ' → μ'.2 = μ.2 → tkC μ' tl tp (nxT' tl tp s) → Q 1 0 (0, 0) μ') (h2 : xK tl tp s ≠ 3 → Q 0 0 (0, 0) (wrM μ 1 s)) : Call (d + 4) n4_takeStop [sR 33 0] μ Q := by
  have xk : xK tl tp s ≤ 5 := by
    have := xC_le (tl := tl) (tp := tp) (s := s)
    unfold xK
    split <;> omega
  refine call_go (cd := k4_takeStop) 30 rfl rfl ?_
  by_cases e : xK tl tp s = 3
  · refine brnT (by rw [hk.2.1, e]; rfl) ?_
    refine c4_taken hT hk (fun z => absurd z (by decide)) (fun _ => ⟨by omega, fun μ' F E K => ?_⟩)
    refine brF (by decide) ?_
    exact ⟨Or.inr rfl, h1 e μ' F E K⟩
  · refine brnF (by rw [hk.2.1]; exact (by simp (disch := first | omega | (simp (disch := omega) only [nI_toInt, Int32.reduceToInt, i_sub, i_add, i_mul]; omega)) only [iNONE, i_lt, i_le, i_eq, i_in, nI_toInt, Int32.reduceToInt, i_sub, i_add, i_mul]; omega)) ?_
    refine c4_taken hT hk (fun _ => ?_) (fun z => absurd rfl z)
    refine brT rfl ?_
    exact ⟨Or.inl rfl, h2 e⟩
theorem c4_takeSort (hT : tpC μ tl tp) (hk : tkC μ tl tp s) (h1 : soV tl tp s ≠ 9 → ∀ μ', frm fTk μ μ' → μ'.2 = μ.2 → tkC μ' tl tp (nxT' tl tp s) → Q (nI (soV tl tp s)) 0 (0, 0) μ') (h2 : soV tl tp s = 9 → Q nONE 0 (0, 0) (wrM μ 1 s)) : Call (d + 4) n4_takeSort [sR 33 0] μ Q := by
  have key : ∀ v : Int32, (v = if soV tl tp s = 9 then nONE else nI (soV tl tp s)) → Run k4_takeSort (Call (d + 3)) Q 54 [some (sR 33 0)] [sI v] μ := by
    intro v hv
    refine run_go 10 ?_
    by_cases e : soV tl tp s = 9
    · rw [if_pos e] at hv
      refine c4_taken hT hk (fun _ => ?_) (fun z => absurd hv z)
      exact h2 e
    · rw [if_neg e] at hv
      refine c4_taken hT hk (fun z => absurd (hv.symm.trans z) (nNO (by have := (so_k e).2; omega))) (fun _ => ⟨(so_k e).1, fun μ' F E K => ?_⟩)
      rw [hv]
      exact h1 e μ' F E K
  refine call_go (cd := k4_takeSort) 4 rfl rfl ?_
  refine c4_isWord_2 hT hk (fun c => ?_) (fun c1 => ?_)
  · refine brF (by decide) ?_
    refine run_go 2 ?_
    exact key 0 (by unfold soV; rw [iteC_t c]; rfl)
  · refine brT rfl ?_
    refine run_go 4 ?_
    refine c4_isWord_3 hT hk (fun c => ?_) (fun c2 => ?_)
    · refine brF (by decide) ?_
      refine run_go 2 ?_
      exact key 1 (by unfold soV; rw [iteC_f c1, iteC_t c]; rfl)
    · refine brT rfl ?_
      refine run_go 4 ?_
      refine c4_isWord_4 hT hk (fun c => ?_) (fun c3 => ?_)
      · refine brF (by decide) ?_
        refine run_go 2 ?_
        exact key 2 (by unfold soV; rw [iteC_f c1, iteC_f c2, iteC_t c]; rfl)
      · refine brT rfl ?_
        refine run_go 4 ?_
        refine c4_isWord_5 hT hk (fun c => ?_) (fun c4 => ?_)
        · refine brF (by decide) ?_
          refine run_go 2 ?_
          exact key 3 (by unfold soV; rw [iteC_f c1, iteC_f c2, iteC_f c3, iteC_t c]; rfl)
        · refine brT rfl ?_
          refine run_go 1 ?_
          exact key nONE (by unfold soV; rw [iteC_f c1, iteC_f c2, iteC_f c3, iteC_f c4]; rfl)
theorem c4_takeRel (hT : tpC μ tl tp) (hk : tkC μ tl tp s) (h1 : reV tl tp s ≠ 9 → ∀ μ', frm fTk μ μ' → μ'.2 = μ.2 → tkC μ' tl tp (nxT' tl tp s) → Q (nI (reV tl tp s)) 0 (0, 0) μ') (h2 : reV tl tp s = 9 → Q nONE 0 (0, 0) (wrM μ 1 s)) : Call (d + 4) n4_takeRel [sR 33 0] μ Q := by
  have key : ∀ v : Int32, (v = if reV tl tp s = 9 then nONE else nI (reV tl tp s)) → Run k4_takeRel (Call (d + 3)) Q 41 [some (sR 33 0)] [sI v] μ := by
    intro v hv
    refine run_go 10 ?_
    by_cases e : reV tl tp s = 9
    · rw [if_pos e] at hv
      refine c4_taken hT hk (fun _ => ?_) (fun z => absurd hv z)
      exact h2 e
    · rw [if_neg e] at hv
      refine c4_taken hT hk (fun z => absurd (hv.symm.trans z) (nNO (by have := (re_k e).2; omega))) (fun _ => ⟨(re_k e).1, fun μ' F E K => ?_⟩)
      rw [hv]
      exact h1 e μ' F E K
  refine call_go (cd := k4_takeRel) 4 rfl rfl ?_
  refine c4_isWord_7 hT hk (fun c => ?_) (fun c1 => ?_)
  · refine brF (by decide) ?_
    refine run_go 2 ?_
    exact key 0 (by unfold reV; rw [iteC_t c]; rfl)
  · refine brT rfl ?_
    refine run_go 4 ?_
    refine c4_isWord_8 hT hk (fun c => ?_) (fun c2 => ?_)
    · refine brF (by decide) ?_
      refine run_go 2 ?_
      exact key 1 (by unfold reV; rw [iteC_f c1, iteC_t c]; rfl)
    · refine brT rfl ?_
      refine run_go 4 ?_
      refine c4_isWord_9 hT hk (fun c => ?_) (fun c3 => ?_)
      · refine brF (by decide) ?_
        refine run_go 2 ?_
        exact key 2 (by unfold reV; rw [iteC_f c1, iteC_f c2, iteC_t c]; rfl)
      · refine brT rfl ?_
        refine run_go 1 ?_
        exact key nONE (by unfold reV; rw [iteC_f c1, iteC_f c2, iteC_f c3]; rfl)
/-! the reference -/
theorem r12_bad (hk : tkR μ tl tp s) (h0 : μ.1 41 0 28 = 0) (h : Q 0 0 (0, 0) (bdM μ x s)) : Call (d + 1) n12_bad [sR 41 0, sI x] μ Q := by
  refine call_go (cd := k12_bad) 20 rfl rfl ?_
  refine brnT h0 ?_
  have e : (m_i μ 41 0 28 x).1 41 0 26 = nI s := (mi_k (by decide)).trans hk.2.2.1
  show Q 0 0 (0, 0) (m_i (m_i μ 41 0 28 x) 41 0 29 ((m_i μ 41 0 28 x).1 41 0 26))
  rw [e]
  exact h
theorem r12_stp (hT : tpR μ tl tp) (hk : tkR μ tl tp s) (h0 : xK tl tp s ≠ 0) (h : ∀ μ', frm fTr μ μ' → μ'.2 = μ.2 → tkR μ' tl tp (nxT' tl tp s) → Q 0 0 (0, 0) μ') : Call (d + 2) n12_step [sR 41 0] μ Q :=
  r12_step hT (x_lt h0 hk.1).2 (hk.2.2.2 (x_lt h0 hk.1).1).2 h
theorem r12_mustY (hT : tpR μ tl tp) (hk : tkR μ tl tp s) (hf : μ.1 41 0 28 = 0) (h0 : xK tl tp s ≠ 0) (h : ∀ μ', frm fTr μ μ' → μ'.2 = μ.2 → tkR μ' tl tp (nxT' tl tp s) → Q 0 0 (0, 0) μ') : Call (d + 3) n12_must [sR 41 0, sI 1] μ Q := by
  refine call_go (cd := k12_must) 20 rfl rfl ?_
  refine brnF (by decide) ?_
  refine brnT hf ?_
  refine r12_stp hT hk h0 (fun μ' F E K => ?_)
  exact h μ' F E K
theorem r12_mustN (hk : tkR μ tl tp s) (hf : μ.1 41 0 28 = 0) (h : Q 0 0 (0, 0) (bdM μ 1 s)) : Call (d + 3) n12_must [sR 41 0, sI 0] μ Q := by
  refine call_go (cd := k12_must) 20 rfl rfl ?_
  refine brnT rfl ?_
  refine r12_bad hk hf ?_
  refine brnF (show ¬ (bdM μ 1 s).1 41 0 28 = 0 from by unfold bdM; rw [mi_k (by decide), mi_s]; decide) ?_
  exact h
theorem r12_mustF (hf : ¬ μ.1 41 0 28 = 0) (h : Q 0 0 (0, 0) μ) : Call (d + 3) n12_must [sR 41 0, sI 1] μ Q := by
  refine call_go (cd := k12_must) 20 rfl rfl ?_
  refine brnF (by decide) ?_
  refine brnF hf ?_
  exact h
theorem rk_ok : ∀ k, k ≤ 5 → rkW k < 5 ∧ (rkW k = 2 ↔ k = 1) ∧ (rkW k = 3 ↔ k = 2) ∧ (rkW k = 4 ↔ k = 3) ∧ (rkW k = 1 ↔ k = 0) := by decide
theorem xK_le : xK tl tp s ≤ 5 := by
  have := xC_le (tl := tl) (tp := tp) (s := s)
  unfold xK
  split <;> omega
theorem r12_numberTo (hx : x = nI m) (hm : m ≤ 200) (hT : tpR μ tl tp) (hk : tkR μ tl tp s) (hf : μ.1 41 0 28 = 0) (h1 : xK tl tp s = 2 → nuV tl tp s ≤ m → ∀ μ', frm fTr μ μ' → μ'.2 = μ.2 → tkR μ' tl tp (nxT' tl tp s) → Q (nI (nuV tl tp s)) 0 (0, 0) μ') (h2 : xK tl tp s = 2 → m < nuV tl tp s → ∀ v, Q v 0 (0, 0) (bdM μ 2 s)) (h3 : xK tl tp s ≠ 2 → ∀ v, Q v 0 (0, 0) (bdM μ 1 s)) : Call (d + 4) n12_numberTo [sR 41 0, sI x] μ Q := by
  subst hx
  have ht := hT.1
  have rk := rk_ok _ (xK_le (tl := tl) (tp := tp) (s := s))
  refine call_go (cd := k12_numberTo) 3 rfl rfl ?_
  refine brT (by rw [hf]; decide) ?_
  refine run_go 5 ?_
  show Run k12_numberTo (Call (d + 3)) Q 16 [some (sR 41 0), some (sI (nI m)), some (sI 0), some (sI (μ.1 41 0 26))] [] μ
  rw [hk.2.2.1]
  by_cases e : xK tl tp s = 2
  · have k2 := xK_2 e
    have xr := x_run (Or.inr k2.1 : xC tl tp s = 1 ∨ xC tl tp s = 2)
    have k4 := hk.2.2.2 (x_lt (fun z => by rw [e] at z; cases z) hk.1).1
    have nl := nu_lt e
    refine loopC (cd := k12_numberTo) (d := d + 3) (Q := Q) (xE tl tp s - s) (fun i ls μ' => ls = [some (sR 41 0), some (sI (nI m)), some (sI (nI (nmV (fun j => tp (s + j)) i))), some (sI (nI (s + i)))] ∧ μ' = μ) 16 0 _ _ (Nat.zero_le _) ⟨rfl, rfl⟩ ?_
    rintro i ls μ1 hi ⟨rfl, rfl⟩ kk
    refine run_go 4 ?_
    by_cases q : i = xE tl tp s - s
    · subst q
      refine brT (by simp (disch := first | omega | (simp (disch := omega) only [nI_toInt, Int32.reduceToInt, i_sub, i_add, i_mul]; omega)) only [k4.1, iNONE, i_lt, i_le, i_eq, i_in, nI_toInt, Int32.reduceToInt, i_sub, i_add, i_mul]; omega) ?_
      refine run_go 4 ?_
      refine brnT (by rw [hk.2.1, rk.2.2.1.mpr e]; rfl) ?_
      have lst : ∀ μ2, μ2.1 41 0 25 = nI (rkW (xK tl tp s)) → (Call (d + 3) n12_must [sR 41 0, sI 1] μ2 (fun _ _ _ μ' => Q (nI (nuV tl tp s)) 0 (0, 0) μ')) → Run k12_numberTo (Call (d + 3)) Q 71 [some (sR 41 0), some (sI (nI m)), some (sI (nI (nmV (fun j => tp (s + j)) (xE tl tp s - s)))), some (sI (nI (s + (xE tl tp s - s))))] [] μ2 := by
        intro μ2 t2 hm2
        refine run_go 20 ?_
        refine brnT (by rw [t2, rk.2.2.1.mpr e]; rfl) ?_
        exact hm2
      refine run_go 3 ?_
      by_cases c : nuV tl tp s ≤ m
      · refine brT (show nI (nuV tl tp s) ≤ nI m from (by simp (disch := first | omega | (simp (disch := omega) only [nI_toInt, Int32.reduceToInt, i_sub, i_add, i_mul]; omega)) only [iNONE, i_lt, i_le, i_eq, i_in, nI_toInt, Int32.reduceToInt, i_sub, i_add, i_mul]; omega)) ?_
        refine lst μ1 hk.2.1 ?_
        exact r12_mustY hT hk hf (by omega) (h1 e c)
      · refine brF (show ¬ nI (nuV tl tp s) ≤ nI m from (by simp (disch := first | omega | (simp (disch := omega) only [nI_toInt, Int32.reduceToInt, i_sub, i_add, i_mul]; omega)) only [iNONE, i_lt, i_le, i_eq, i_in, nI_toInt, Int32.reduceToInt, i_sub, i_add, i_mul]; omega)) ?_
        refine run_go 3 ?_
        refine r12_bad hk hf ?_
        refine lst _ ((mi_k (by decide)).trans ((mi_k (by decide)).trans hk.2.1)) ?_
        refine r12_mustF (show ¬ (bdM μ1 2 s).1 41 0 28 = 0 from by unfold bdM; rw [mi_k (by decide), mi_s]; decide) ?_
        exact h2 e (by omega) _
    · refine brF (by simp (disch := first | omega | (simp (disch := omega) only [nI_toInt, Int32.reduceToInt, i_sub, i_add, i_mul]; omega)) only [k4.1, iNONE, i_lt, i_le, i_eq, i_in, nI_toInt, Int32.reduceToInt, i_sub, i_add, i_mul]; omega) ?_
      have lt := xr.2.2.1 (s + i) (by omega) (by omega)
      have bt := hT.2.2 _ lt.1
      have cl := cls2.mp (lt.2.trans k2.1)
      have nl := nm_lt (f := fun j => tp (s + j)) i (fun j hj => by
        have := xr.2.2.1 (s + j) (by omega) (by omega)
        exact cls2.mp (this.2.trans k2.1))
      have n3 : 10 ^ i ≤ 10 ^ 3 := Nat.pow_le_pow_right (by decide) (by omega)
      refine run_go 4 ?_
      refine brnT (by rw [hk.2.1, rk.2.2.1.mpr e]; rfl) ?_
      refine run_go 13 ?_
      refine And.intro (by simp (disch := first | omega | (simp (disch := omega) only [nI_toInt, Int32.reduceToInt, i_sub, i_add, i_mul]; omega)) only [iNONE, i_lt, i_le, i_eq, i_in, nI_toInt, Int32.reduceToInt, i_sub, i_add, i_mul]; omega) ?_
      rw [nI_clamp (by omega), bt.2]
      refine kk _ _ (by omega) ⟨?_, rfl⟩
      rw [nI_1, show (10 : Int32) = nI 10 from rfl, show (48 : Int32) = nI 48 from rfl, nI_mul, nI_add, nI_sub (by omega), show 10 * nmV (fun j => tp (s + j)) i + tp (s + i) - 48 = nmV (fun j => tp (s + j)) i * 10 + (tp (s + i) - 48) by omega]
      rfl
  · have nk : ¬ nI (rkW (xK tl tp s)) = 3 := fun z => e (rk.2.2.1.mp ((nI_eq (a := rkW (xK tl tp s)) (b := 3) (by omega) (by omega)).mp z))
    have out : Run k12_numberTo (Call (d + 3)) Q 53 [some (sR 41 0), some (sI (nI m)), some (sI 0), some (sI (nI s))] [] μ := by
      refine run_go 20 ?_
      refine brnF (by rw [hk.2.1]; exact nk) ?_
      refine brnF (by rw [hk.2.1]; exact nk) ?_
      refine r12_mustN hk hf ?_
      exact h3 e 0
    refine run_go 4 ?_
    refine And.intro (fun _ => out) (fun _ => ?_)
    refine run_go 4 ?_
    refine brnF (by rw [hk.2.1]; exact nk) ?_
    exact out
theorem r12_numberF (hf : 0 < μ.1 41 0 28) (h : Q 0 0 (0, 0) μ) : Call (d + 4) n12_numberTo [sR 41 0, sI x] μ Q := by
  refine call_go (cd := k12_numberTo) 10 rfl rfl ?_
  refine brF (by simp only [i_lt, i_le] at hf ⊢; omega) ?_
  exact h
theorem r12_sortF (hf : 0 < μ.1 41 0 28) (h : Q 0 0 (0, 0) μ) : Call (d + 4) n12_sortHere [sR 41 0] μ Q := by
  refine call_go (cd := k12_sortHere) 10 rfl rfl ?_
  refine brF (by simp only [i_lt, i_le] at hf ⊢; omega) ?_
  exact h
theorem wc (hb : ∀ k, k < tl → tp k < 256) (hw : w < 10) (P : Int64) (hP : P = Int64.ofNat (wKn w)) : lg_cmp (Int64.ofNat (wdV tl tp s)) P = 0 ↔ wdP tl tp s w := by
  rw [cmp_eq, hP, l64_inj (wdV_lt hb) (w_ok w hw).2.2.2.1, word_iff hb hw]
theorem r12_sortHere (hT : tpR μ tl tp) (hk : tkR μ tl tp s) (hf : μ.1 41 0 28 = 0) (h1 : soV tl tp s ≠ 9 → ∀ μ', frm fTr μ μ' → μ'.2 = μ.2 → tkR μ' tl tp (nxT' tl tp s) → Q (nI (soV tl tp s)) 0 (0, 0) μ') (h2 : soV tl tp s = 9 → Q nONE 0 (0, 0) (bdM μ 1 s)) : Call (d + 4) n12_sortHere [sR 41 0] μ Q := by
  have hb : ∀ k, k < tl → tp k < 256 := fun k hk => (hT.2.2 k hk).1
  have W := fun w (hw : w < 10) P hP => wc (tl := tl) (tp := tp) (s := s) hb hw P hP
  have key : ∀ v : Int32, (v = if soV tl tp s = 9 then nONE else nI (soV tl tp s)) → Run k12_sortHere (Call (d + 3)) Q 64 [some (sR 41 0), some (sL (Int64.ofNat (wdV tl tp s))), none] [sI v] μ := by
    intro v hv
    by_cases e : soV tl tp s = 9
    · rw [if_pos e] at hv
      subst hv
      refine run_go 20 ?_
      refine brT rfl ?_
      refine r12_mustN hk hf ?_
      exact h2 e
    · rw [if_neg e] at hv
      subst hv
      refine run_go 20 ?_
      refine brF (nNO (by have := (so_k e).2; omega)) ?_
      refine r12_mustY hT hk hf (so_k e).1 (fun μ' F E K => ?_)
      exact h1 e μ' F E K
  refine call_go (cd := k12_sortHere) 3 rfl rfl ?_
  refine brT (by rw [hf]; decide) ?_
  refine run_go 7 ?_
  refine r12_word hT hk ?_
  by_cases c1 : wdP tl tp s 2
  · refine brnT ((W 2 (by decide) _ (by decide)).mpr c1) ?_
    refine run_go 2 ?_
    exact key 0 (by unfold soV; rw [iteC_t c1]; rfl)
  · refine brnF (fun z => c1 ((W 2 (by decide) _ (by decide)).mp z)) ?_
    refine run_go 4 ?_
    by_cases c2 : wdP tl tp s 3
    · refine brnT ((W 3 (by decide) _ (by decide)).mpr c2) ?_
      refine run_go 2 ?_
      exact key 1 (by unfold soV; rw [iteC_f c1, iteC_t c2]; rfl)
    · refine brnF (fun z => c2 ((W 3 (by decide) _ (by decide)).mp z)) ?_
      refine run_go 4 ?_
      by_cases c3 : wdP tl tp s 4
      · refine brnT ((W 4 (by decide) _ (by decide)).mpr c3) ?_
        refine run_go 2 ?_
        exact key 2 (by unfold soV; rw [iteC_f c1, iteC_f c2, iteC_t c3]; rfl)
      · refine brnF (fun z => c3 ((W 4 (by decide) _ (by decide)).mp z)) ?_
        refine run_go 4 ?_
        by_cases c4 : wdP tl tp s 5
        · refine brnT ((W 5 (by decide) _ (by decide)).mpr c4) ?_
          refine run_go 2 ?_
          exact key 3 (by unfold soV; rw [iteC_f c1, iteC_f c2, iteC_f c3, iteC_t c4]; rfl)
        · refine brnF (fun z => c4 ((W 5 (by decide) _ (by decide)).mp z)) ?_
          refine run_go 1 ?_
          exact key nONE (by unfold soV; rw [iteC_f c1, iteC_f c2, iteC_f c3, iteC_f c4]; rfl)
end OP
