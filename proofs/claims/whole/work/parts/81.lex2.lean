/-! a token further -/
def fTk (a _ k : Nat) : Prop := ¬ (a = 33 ∧ 3 ≤ k ∧ k ≤ 5)
def fTr (a _ k : Nat) : Prop := ¬ (a = 41 ∧ 24 ≤ k ∧ k ≤ 27)
/-- the token in hand: of the class; of the reference -/
def tkC (μ : sM) (tl : Nat) (tp : Nat → Nat) (s : Nat) : Prop := s ≤ tl ∧ μ.1 33 0 3 = nI (xK tl tp s) ∧ μ.1 33 0 4 = nI s ∧ μ.1 33 0 5 = nI (xE tl tp s)
def rkW (k : Nat) : Nat := if k = 0 then 1 else if k = 1 then 2 else if k = 2 then 3 else if k = 3 then 4 else 0
def tkR (μ : sM) (tl : Nat) (tp : Nat → Nat) (s : Nat) : Prop := s ≤ tl ∧ μ.1 41 0 25 = nI (rkW (xK tl tp s)) ∧ μ.1 41 0 26 = nI s ∧ (s < tl → μ.1 41 0 27 = nI (xE tl tp s) ∧ μ.1 41 0 24 = nI (xE tl tp s))
section OP
variable {d n k c s a b r u o i m p q t tl j : Nat} {tp : Nat → Nat} {μ μ' μ'' M : sM} {Q : sQ} {x y z v : Int32} {ξ : Nat → Nat → Int32}
theorem tpC.fr (h : tpC μ tl tp) (e : frm fTk μ μ') : tpC μ' tl tp := ⟨h.1, (e 33 0 2 (by unfold fTk; omega)).trans h.2.1, fun k hk => ⟨(h.2.2 k hk).1, (e 34 0 k (by unfold fTk; omega)).trans (h.2.2 k hk).2⟩⟩
theorem tpR.fr (h : tpR μ tl tp) (e : frm fTr μ μ') : tpR μ' tl tp := ⟨h.1, (e 41 0 23 (by unfold fTr; omega)).trans h.2.1, fun k hk => ⟨(h.2.2 k hk).1, (e 55 0 k (by unfold fTr; omega)).trans (h.2.2 k hk).2⟩⟩
theorem xC_0 (h : ¬ s < tl) : xC tl tp s = 0 := if_neg h
theorem xC_1 (h : s < tl) : xC tl tp s = cls (tp s) := if_pos h
theorem xC_le : xC tl tp s ≤ 5 := by
  unfold xC
  split
  · exact cls_le.2
  · omega
theorem xE_le (hs : s ≤ tl) : xE tl tp s ≤ tl + 1 := by
  by_cases h : xC tl tp s = 1 ∨ xC tl tp s = 2
  · have := x_run h; omega
  · rw [x_one h]; omega
theorem c4_advance (hT : tpC μ tl tp) (hp : p ≤ tl) (he : μ.1 33 0 5 = nI p) (h : ∀ μ', frm fTk μ μ' → μ'.2 = μ.2 → tkC μ' tl tp (xS tl tp p) → Q 0 0 (0, 0) μ') : Call (d + 2) n4_advance [sR 33 0] μ Q := by
  have ht := hT.1
  have sp := x_sp (tl := tl) (tp := tp) (p := p)
  have hs := sp.2.2.2 hp
  generalize xS tl tp p = s at sp hs h
  have cl := xC_le (tl := tl) (tp := tp) (s := s)
  have c5 : xC tl tp s ≠ 5 := fun z => by
    by_cases e : s < tl
    · rw [xC_1 e] at z; exact sp.2.2.1 ⟨e, z⟩
    · rw [xC_0 e] at z; omega
  refine call_go (cd := k4_advance) 3 rfl rfl ?_
  show Run k4_advance (Call (d + 1)) Q 5 [some (sR 33 0), some (sI (μ.1 33 0 5))] [] μ
  rw [he]
  refine loopC (cd := k4_advance) (d := d + 1) (Q := Q) (s - p) (fun i ls μ' => ls = [some (sR 33 0), some (sI (nI (p + i)))] ∧ μ' = μ) 5 0 _ _ (Nat.zero_le _) ⟨rfl, rfl⟩ ?_
  rintro i ls μ1 hi ⟨rfl, rfl⟩ kk
  refine run_go 4 ?_
  by_cases e : i < s - p
  · have q := sp.2.1 (p + i) (by omega) (by omega)
    refine brF (by simp (disch := first | omega | (simp (disch := omega) only [nI_toInt, Int32.reduceToInt, i_sub, i_add, i_mul]; omega)) only [hT.2.1, iNONE, i_lt, i_le, i_eq, i_in, nI_toInt, Int32.reduceToInt, i_sub, i_add, i_mul]; omega) ?_
    refine run_go 5 ?_
    refine c4_classAt rfl (by omega) hT ?_
    rw [xC_1 q.1, q.2]
    refine brnT rfl ?_
    refine run_go 2 ?_
    exact kk _ _ e ⟨by rw [nI_1]; rfl, rfl⟩
  · have es : p + i = s := by omega
    rw [es]
    -- from the start on
    have body : Run k4_advance (Call (d + 1)) Q 28 [some (sR 33 0), some (sI (nI s))] [] μ1 := by
      have T1 : tpC (m_i μ1 33 0 4 (nI s)) tl tp := hT.fr (frm.rf.mi (by unfold fTk; omega))
      refine run_go 9 ?_
      refine c4_classAt rfl (by omega) T1 ?_
      show Run k4_advance (Call (d + 1)) Q 45 [some (sR 33 0), some (sI (nI s + 1))] [] (m_i (m_i μ1 33 0 4 (nI s)) 33 0 3 (nI (xC tl tp s)))
      rw [nI_1]
      have F2 : frm fTk μ1 (m_i (m_i μ1 33 0 4 (nI s)) 33 0 3 (nI (xC tl tp s))) := (frm.rf.mi (by unfold fTk; omega)).mi (by unfold fTk; omega)
      have K2 : (m_i (m_i μ1 33 0 4 (nI s)) 33 0 3 (nI (xC tl tp s))).1 33 0 3 = nI (xC tl tp s) := mi_s
      have S2 : (m_i (m_i μ1 33 0 4 (nI s)) 33 0 3 (nI (xC tl tp s))).1 33 0 4 = nI s := (mi_k (by decide)).trans mi_s
      have E2 : (m_i (m_i μ1 33 0 4 (nI s)) 33 0 3 (nI (xC tl tp s))).2 = μ1.2 := rfl
      generalize m_i (m_i μ1 33 0 4 (nI s)) 33 0 3 (nI (xC tl tp s)) = M2 at F2 K2 S2 E2 ⊢
      have T2 := hT.fr F2
      -- the end
      have fin : Run k4_advance (Call (d + 1)) Q 87 [some (sR 33 0), some (sI (nI (xE tl tp s)))] [] M2 := by
        have xe := xE_le (tp := tp) hs
        have K3 : (m_i M2 33 0 5 (nI (xE tl tp s))).1 33 0 3 = nI (xC tl tp s) := (mi_k (by decide)).trans K2
        have S3 : (m_i M2 33 0 5 (nI (xE tl tp s))).1 33 0 4 = nI s := (mi_k (by decide)).trans S2
        have V3 : (m_i M2 33 0 5 (nI (xE tl tp s))).1 33 0 5 = nI (xE tl tp s) := mi_s
        have F3 : frm fTk μ1 (m_i M2 33 0 5 (nI (xE tl tp s))) := F2.mi (by unfold fTk; omega)
        refine run_go 7 ?_
        by_cases c1 : xC tl tp s = 2
        · refine brnT (by rw [K3, c1]; rfl) ?_
          have xr := x_run (Or.inr c1 : xC tl tp s = 1 ∨ xC tl tp s = 2)
          refine run_go 7 ?_
          by_cases c2 : 3 < xE tl tp s - s
          · refine brF (by rw [V3, S3]; exact (by simp (disch := first | omega | (simp (disch := omega) only [nI_toInt, Int32.reduceToInt, i_sub, i_add, i_mul]; omega)) only [iNONE, i_lt, i_le, i_eq, i_in, nI_toInt, Int32.reduceToInt, i_sub, i_add, i_mul]; omega)) ?_
            refine run_go 10 ?_
            refine h _ (F3.mi (by unfold fTk; omega)) E2 ⟨hs, ?_, ?_, ?_⟩
            · rw [mi_s]
              unfold xK
              rw [if_pos ⟨c1, c2⟩]; rfl
            · rw [mi_k (by decide)]; exact S3
            · rw [mi_k (by decide)]; exact V3
          · refine brT (by rw [V3, S3]; exact (by simp (disch := first | omega | (simp (disch := omega) only [nI_toInt, Int32.reduceToInt, i_sub, i_add, i_mul]; omega)) only [iNONE, i_lt, i_le, i_eq, i_in, nI_toInt, Int32.reduceToInt, i_sub, i_add, i_mul]; omega)) ?_
            refine run_go 10 ?_
            refine h _ F3 E2 ⟨hs, ?_, S3, V3⟩
            rw [K3]
            unfold xK
            rw [if_neg (fun z => c2 z.2)]
        · refine brnF (by rw [K3]; exact (by simp (disch := first | omega | (simp (disch := omega) only [nI_toInt, Int32.reduceToInt, i_sub, i_add, i_mul]; omega)) only [iNONE, i_lt, i_le, i_eq, i_in, nI_toInt, Int32.reduceToInt, i_sub, i_add, i_mul]; omega)) ?_
          refine run_go 10 ?_
          refine h _ F3 E2 ⟨hs, ?_, S3, V3⟩
          rw [K3]
          unfold xK
          rw [if_neg (fun z => c1 z.1)]
      by_cases c1 : xC tl tp s = 1 ∨ xC tl tp s = 2
      · have xr := x_run c1
        refine loopC (cd := k4_advance) (d := d + 1) (Q := Q) (xE tl tp s - (s + 1)) (fun i ls μ' => ls = [some (sR 33 0), some (sI (nI (s + 1 + i)))] ∧ μ' = M2) 45 0 _ _ (Nat.zero_le _) ⟨rfl, rfl⟩ ?_
        rintro i ls μ3 hi ⟨rfl, rfl⟩ kk2
        refine run_go 4 ?_
        have chk : s + 1 + i < tl → Run k4_advance (Call (d + 1)) Q 69 [some (sR 33 0), some (sI (nI (s + 1 + i)))] [] μ3 := by
          intro hlt
          refine run_go 6 ?_
          refine c4_classAt rfl (by omega) T2 ?_
          by_cases e2 : i < xE tl tp s - (s + 1)
          · have q := xr.2.2.1 (s + 1 + i) (by omega) (by omega)
            refine brnT (by rw [K2, xC_1 q.1, q.2]) ?_
            refine run_go 2 ?_
            exact kk2 _ _ e2 ⟨by rw [nI_1]; rfl, rfl⟩
          · have ee : s + 1 + i = xE tl tp s := by omega
            have cle := cls_le (b := tp (s + 1 + i))
            refine brnF (by
              rw [K2, xC_1 hlt]
              intro z
              have z := (nI_eq (by omega) (by omega)).mp z
              rw [ee] at z hlt
              exact xr.2.2.2 ⟨hlt, z⟩) ?_
            rw [ee]
            exact fin
        by_cases e1 : s + 1 + i < tl
        · refine brF (by simp (disch := first | omega | (simp (disch := omega) only [nI_toInt, Int32.reduceToInt, i_sub, i_add, i_mul]; omega)) only [T2.2.1, iNONE, i_lt, i_le, i_eq, i_in, nI_toInt, Int32.reduceToInt, i_sub, i_add, i_mul]; omega) ?_
          refine run_go 4 ?_
          by_cases e3 : xC tl tp s = 1
          · refine brT (by rw [K2, e3]; rfl) ?_
            exact chk e1
          · refine brF (by rw [K2]; exact (by simp (disch := first | omega | (simp (disch := omega) only [nI_toInt, Int32.reduceToInt, i_sub, i_add, i_mul]; omega)) only [iNONE, i_lt, i_le, i_eq, i_in, nI_toInt, Int32.reduceToInt, i_sub, i_add, i_mul]; omega)) ?_
            refine run_go 4 ?_
            refine brnT (by rw [K2, show xC tl tp s = 2 by omega]; rfl) ?_
            exact chk e1
        · refine brT (by simp (disch := first | omega | (simp (disch := omega) only [nI_toInt, Int32.reduceToInt, i_sub, i_add, i_mul]; omega)) only [T2.2.1, iNONE, i_lt, i_le, i_eq, i_in, nI_toInt, Int32.reduceToInt, i_sub, i_add, i_mul]; omega) ?_
          rw [show s + 1 + i = xE tl tp s by
            by_cases e2 : i < xE tl tp s - (s + 1)
            · have q := xr.2.2.1 (s + 1 + i) (by omega) (by omega)
              omega
            · omega]
          exact fin
      · rw [x_one c1] at fin
        refine run_go 4 ?_
        by_cases e1 : s + 1 < tl
        · refine brF (by simp (disch := first | omega | (simp (disch := omega) only [nI_toInt, Int32.reduceToInt, i_sub, i_add, i_mul]; omega)) only [T2.2.1, iNONE, i_lt, i_le, i_eq, i_in, nI_toInt, Int32.reduceToInt, i_sub, i_add, i_mul]; omega) ?_
          refine run_go 4 ?_
          refine brF (by rw [K2]; exact (by simp (disch := first | omega | (simp (disch := omega) only [nI_toInt, Int32.reduceToInt, i_sub, i_add, i_mul]; omega)) only [iNONE, i_lt, i_le, i_eq, i_in, nI_toInt, Int32.reduceToInt, i_sub, i_add, i_mul]; omega)) ?_
          refine run_go 4 ?_
          refine brnF (by rw [K2]; exact (by simp (disch := first | omega | (simp (disch := omega) only [nI_toInt, Int32.reduceToInt, i_sub, i_add, i_mul]; omega)) only [iNONE, i_lt, i_le, i_eq, i_in, nI_toInt, Int32.reduceToInt, i_sub, i_add, i_mul]; omega)) ?_
          exact fin
        · refine brT (by simp (disch := first | omega | (simp (disch := omega) only [nI_toInt, Int32.reduceToInt, i_sub, i_add, i_mul]; omega)) only [T2.2.1, iNONE, i_lt, i_le, i_eq, i_in, nI_toInt, Int32.reduceToInt, i_sub, i_add, i_mul]; omega) ?_
          exact fin
    by_cases e1 : s < tl
    · refine brF (by simp (disch := first | omega | (simp (disch := omega) only [nI_toInt, Int32.reduceToInt, i_sub, i_add, i_mul]; omega)) only [hT.2.1, iNONE, i_lt, i_le, i_eq, i_in, nI_toInt, Int32.reduceToInt, i_sub, i_add, i_mul]; omega) ?_
      refine run_go 5 ?_
      refine c4_classAt rfl (by omega) hT ?_
      refine brnF (by exact (by simp (disch := first | omega | (simp (disch := omega) only [nI_toInt, Int32.reduceToInt, i_sub, i_add, i_mul]; omega)) only [iNONE, i_lt, i_le, i_eq, i_in, nI_toInt, Int32.reduceToInt, i_sub, i_add, i_mul]; omega)) ?_
      exact body
    · refine brT (by simp (disch := first | omega | (simp (disch := omega) only [nI_toInt, Int32.reduceToInt, i_sub, i_add, i_mul]; omega)) only [hT.2.1, iNONE, i_lt, i_le, i_eq, i_in, nI_toInt, Int32.reduceToInt, i_sub, i_add, i_mul]; omega) ?_
      exact body
end OP
