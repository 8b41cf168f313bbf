/-! a token further: the reference -/
section OP
variable {d n k c s a b r u o i m p q t tl j : Nat} {tp : Nat → Nat} {μ μ' μ'' M : sM} {Q : sQ} {x y z v : Int32} {ξ : Nat → Nat → Int32}
theorem cls5 : cls b = 5 ↔ b = 32 ∨ b = 10 := by
  unfold cls
  split
  · omega
  · split
    · omega
    · split
      · omega
      · split <;> omega
theorem cls1 : cls b = 1 ↔ 97 ≤ b ∧ b ≤ 122 := by
  unfold cls
  split
  · omega
  · split
    · omega
    · split
      · omega
      · split <;> omega
theorem cls2 : cls b = 2 ↔ 48 ≤ b ∧ b ≤ 57 := by
  unfold cls
  split
  · omega
  · split
    · omega
    · split
      · omega
      · split <;> omega
theorem cls3 : cls b = 3 ↔ b = 59 := by
  unfold cls
  split
  · omega
  · split
    · omega
    · split
      · omega
      · split <;> omega
theorem r12_isLetter (h1 : 97 ≤ x.toInt ∧ x.toInt ≤ 122 → Q 1 0 (0, 0) μ) (h2 : ¬ (97 ≤ x.toInt ∧ x.toInt ≤ 122) → Q 0 0 (0, 0) μ) : Call (d + 1) n12_isLetter [sI x] μ Q := by
  have rx := i_rng x
  refine call_go (cd := k12_isLetter) 20 rfl rfl ?_
  by_cases e : x.toInt < 97
  · refine brT (by simp (disch := first | omega | (simp (disch := omega) only [nI_toInt, Int32.reduceToInt, i_sub, i_add, i_mul]; omega)) only [iNONE, i_lt, i_le, i_eq, i_in, nI_toInt, Int32.reduceToInt, i_sub, i_add, i_mul]; omega) ?_
    exact ⟨Or.inl rfl, h2 (by omega)⟩
  · refine brF (by simp (disch := first | omega | (simp (disch := omega) only [nI_toInt, Int32.reduceToInt, i_sub, i_add, i_mul]; omega)) only [iNONE, i_lt, i_le, i_eq, i_in, nI_toInt, Int32.reduceToInt, i_sub, i_add, i_mul]; omega) ?_
    by_cases e2 : 122 < x.toInt
    · refine brT (by simp (disch := first | omega | (simp (disch := omega) only [nI_toInt, Int32.reduceToInt, i_sub, i_add, i_mul]; omega)) only [iNONE, i_lt, i_le, i_eq, i_in, nI_toInt, Int32.reduceToInt, i_sub, i_add, i_mul]; omega) ?_
      exact ⟨Or.inl rfl, h2 (by omega)⟩
    · refine brF (by simp (disch := first | omega | (simp (disch := omega) only [nI_toInt, Int32.reduceToInt, i_sub, i_add, i_mul]; omega)) only [iNONE, i_lt, i_le, i_eq, i_in, nI_toInt, Int32.reduceToInt, i_sub, i_add, i_mul]; omega) ?_
      exact ⟨Or.inr rfl, h1 (by omega)⟩
theorem r12_isFigure (h1 : 48 ≤ x.toInt ∧ x.toInt ≤ 57 → Q 1 0 (0, 0) μ) (h2 : ¬ (48 ≤ x.toInt ∧ x.toInt ≤ 57) → Q 0 0 (0, 0) μ) : Call (d + 1) n12_isFigure [sI x] μ Q := by
  have rx := i_rng x
  refine call_go (cd := k12_isFigure) 20 rfl rfl ?_
  by_cases e : x.toInt < 48
  · refine brT (by simp (disch := first | omega | (simp (disch := omega) only [nI_toInt, Int32.reduceToInt, i_sub, i_add, i_mul]; omega)) only [iNONE, i_lt, i_le, i_eq, i_in, nI_toInt, Int32.reduceToInt, i_sub, i_add, i_mul]; omega) ?_
    exact ⟨Or.inl rfl, h2 (by omega)⟩
  · refine brF (by simp (disch := first | omega | (simp (disch := omega) only [nI_toInt, Int32.reduceToInt, i_sub, i_add, i_mul]; omega)) only [iNONE, i_lt, i_le, i_eq, i_in, nI_toInt, Int32.reduceToInt, i_sub, i_add, i_mul]; omega) ?_
    by_cases e2 : 57 < x.toInt
    · refine brT (by simp (disch := first | omega | (simp (disch := omega) only [nI_toInt, Int32.reduceToInt, i_sub, i_add, i_mul]; omega)) only [iNONE, i_lt, i_le, i_eq, i_in, nI_toInt, Int32.reduceToInt, i_sub, i_add, i_mul]; omega) ?_
      exact ⟨Or.inl rfl, h2 (by omega)⟩
    · refine brF (by simp (disch := first | omega | (simp (disch := omega) only [nI_toInt, Int32.reduceToInt, i_sub, i_add, i_mul]; omega)) only [iNONE, i_lt, i_le, i_eq, i_in, nI_toInt, Int32.reduceToInt, i_sub, i_add, i_mul]; omega) ?_
      exact ⟨Or.inr rfl, h1 (by omega)⟩
/-- a byte as the reference sees it -/
def byR (tl : Nat) (tp : Nat → Nat) (j : Nat) : Int32 := if j < tl then nI (tp j) else nONE
theorem byR_v (hT : tpR μ tl tp) : (byR tl tp j).toInt = if j < tl then (tp j : Int) else -1000000 := by
  unfold byR
  by_cases e : j < tl
  · rw [if_pos e, if_pos e, nI_toInt (by have := (hT.2.2 j e).1; omega)]
  · rw [if_neg e, if_neg e]; exact iNONE
theorem r12_step (hT : tpR μ tl tp) (hp : p ≤ tl) (he : μ.1 41 0 24 = nI p) (h : ∀ μ', frm fTr μ μ' → μ'.2 = μ.2 → tkR μ' tl tp (xS tl tp p) → Q 0 0 (0, 0) μ') : Call (d + 2) n12_step [sR 41 0] μ Q := by
  have ht := hT.1
  have sp := x_sp (tl := tl) (tp := tp) (p := p)
  have hs := sp.2.2.2 hp
  generalize xS tl tp p = s at sp hs h
  have bv := fun j => byR_v (j := j) hT
  refine call_go (cd := k12_step) 0 rfl rfl ?_
  refine loopC (cd := k12_step) (d := d + 1) (Q := Q) (s - p) (fun i ls μ' => ls = [some (sR 41 0)] ∧ μ'.1 41 0 24 = nI (p + i) ∧ frm fTr μ μ' ∧ μ'.2 = μ.2) 0 0 _ _ (Nat.zero_le _) ⟨rfl, he, frm.rf, rfl⟩ ?_
  rintro i ls μ1 hi ⟨rfl, C1, F1, E1⟩ kk
  have T1 := hT.fr F1
  -- the end, from a cursor and a token
  have fin : ∀ (μ' : sM) (ls : sO) (e : Nat), frm fTr μ μ' → μ'.2 = μ.2 → μ'.1 41 0 24 = nI e → μ'.1 41 0 26 = nI s → μ'.1 41 0 25 = nI (rkW (xK tl tp s)) → (s < tl → e = xE tl tp s) → Run k12_step (Call (d + 1)) Q 196 ([some (sR 41 0)] ++ ls) [] μ' := by
    intro μ' ls e F E c f t he
    refine run_sub (ls := [some (sR 41 0)]) ?_ (subL.app _ ls)
    refine run_go 10 ?_
    refine h _ (F.mi (by unfold fTr; omega)) E ⟨hs, (mi_k (by decide)).trans t, (mi_k (by decide)).trans f, fun z => ⟨?_, ?_⟩⟩
    · rw [mi_s, c, he z]
    · rw [mi_k (by decide), c, he z]
  -- the token itself
  have body : i = s - p → Run k12_step (Call (d + 1)) Q 39 [some (sR 41 0)] [] μ1 := by
    intro ei
    rw [show p + i = s by omega] at C1
    have F2 : frm fTr μ (m_i μ1 41 0 26 (nI s)) := F1.mi (by unfold fTr; omega)
    have C2 : (m_i μ1 41 0 26 (nI s)).1 41 0 24 = nI s := (mi_k (by decide)).trans C1
    have S2 : (m_i μ1 41 0 26 (nI s)).1 41 0 26 = nI s := mi_s
    have E2 : (m_i μ1 41 0 26 (nI s)).2 = μ.2 := E1
    have key : Run k12_step (Call (d + 1)) Q 47 [some (sR 41 0)] [] (m_i μ1 41 0 26 (nI s)) := by
      generalize m_i μ1 41 0 26 (nI s) = M2 at F2 C2 S2 E2 ⊢
      have T2 := hT.fr F2
      refine run_go 8 ?_
      refine r12_byteAt C2 (by omega) T2 ?_
      by_cases c0 : s < tl
      · rw [if_pos c0]
        have hb := (hT.2.2 s c0).1
        have xc := xC_1 (tp := tp) c0
        refine brnF (by rw [show (-1000000 : Int32) = nONE from rfl]; exact (by simp (disch := first | omega | (simp (disch := omega) only [nI_toInt, Int32.reduceToInt, i_sub, i_add, i_mul]; omega)) only [iNONE, i_lt, i_le, i_eq, i_in, nI_toInt, Int32.reduceToInt, i_sub, i_add, i_mul]; omega)) ?_
        refine run_go 3 ?_
        refine r12_isLetter (fun c1 => ?_) (fun c1 => ?_)
        · rw [nI_toInt (by omega)] at c1
          have k1 : xC tl tp s = 1 := by rw [xc]; exact cls1.mpr (by omega)
          have xr := x_run (Or.inl k1 : xC tl tp s = 1 ∨ xC tl tp s = 2)
          refine brF (by decide) ?_
          refine loopC (cd := k12_step) (d := d + 1) (Q := Q) (xE tl tp s - s) (fun i ls μ' => ls = [some (sR 41 0), some (sI (nI (tp s)))] ∧ μ'.1 41 0 24 = nI (s + i) ∧ μ'.1 41 0 26 = nI s ∧ frm fTr μ μ' ∧ μ'.2 = μ.2) 77 0 _ _ (Nat.zero_le _) ⟨rfl, C2, S2, F2, E2⟩ ?_
          rintro i ls μ3 hi ⟨rfl, C3, S3, F3, E3⟩ kk3
          have T3 := hT.fr F3
          refine run_go 6 ?_
          refine r12_byteAt C3 (by omega) T3 ?_
          have bv3 := bv (s + i)
          unfold byR at bv3
          refine r12_isLetter (fun c3 => ?_) (fun c3 => ?_)
          · rw [bv3] at c3
            have lt3 : s + i < tl := by
              by_cases e : s + i < tl
              · exact e
              · rw [if_neg e] at c3; omega
            rw [if_pos lt3] at c3
            refine brF (by decide) ?_
            refine run_go 7 ?_
            refine kk3 _ _ ?_ ⟨rfl, ?_, (mi_k (by decide)).trans S3, F3.mi (by unfold fTr; omega), E3⟩
            · refine Classical.byContradiction (fun z => ?_)
              have ee : s + i = xE tl tp s := by omega
              rw [ee] at c3 lt3
              exact xr.2.2.2 ⟨lt3, by rw [k1]; exact cls1.mpr (by omega)⟩
            · rw [mi_s, C3, nI_1]; rfl
          · refine brT rfl ?_
            refine run_go 4 ?_
            refine fin _ [some (sI (nI (tp s)))] (s + i) (F3.mi (by unfold fTr; omega)) E3 ((mi_k (by decide)).trans C3) ((mi_k (by decide)).trans S3) ?_ (fun _ => ?_)
            · rw [mi_s]
              unfold xK
              rw [if_neg (fun z => by omega), k1]; rfl
            · refine Classical.byContradiction (fun z => ?_)
              have q := xr.2.2.1 (s + i) (by omega) (by omega)
              rw [bv3, if_pos q.1] at c3
              have := cls1.mp (q.2.trans k1)
              omega
        · rw [nI_toInt (by omega)] at c1
          refine brT rfl ?_
          refine run_go 3 ?_
          refine r12_isFigure (fun c2 => ?_) (fun c2 => ?_)
          · rw [nI_toInt (by omega)] at c2
            have k2 : xC tl tp s = 2 := by rw [xc]; exact cls2.mpr (by omega)
            have xr := x_run (Or.inr k2 : xC tl tp s = 1 ∨ xC tl tp s = 2)
            refine brF (by decide) ?_
            refine loopC (cd := k12_step) (d := d + 1) (Q := Q) (xE tl tp s - s) (fun i ls μ' => ls = [some (sR 41 0), some (sI (nI (tp s)))] ∧ μ'.1 41 0 24 = nI (s + i) ∧ μ'.1 41 0 26 = nI s ∧ frm fTr μ μ' ∧ μ'.2 = μ.2) 119 0 _ _ (Nat.zero_le _) ⟨rfl, C2, S2, F2, E2⟩ ?_
            rintro i ls μ3 hi ⟨rfl, C3, S3, F3, E3⟩ kk3
            have T3 := hT.fr F3
            refine run_go 6 ?_
            refine r12_byteAt C3 (by omega) T3 ?_
            have bv3 := bv (s + i)
            unfold byR at bv3
            refine r12_isFigure (fun c3 => ?_) (fun c3 => ?_)
            · rw [bv3] at c3
              have lt3 : s + i < tl := by
                by_cases e : s + i < tl
                · exact e
                · rw [if_neg e] at c3; omega
              rw [if_pos lt3] at c3
              refine brF (by decide) ?_
              refine run_go 7 ?_
              refine kk3 _ _ ?_ ⟨rfl, ?_, (mi_k (by decide)).trans S3, F3.mi (by unfold fTr; omega), E3⟩
              · refine Classical.byContradiction (fun z => ?_)
                have ee : s + i = xE tl tp s := by omega
                rw [ee] at c3 lt3
                exact xr.2.2.2 ⟨lt3, by rw [k2]; exact cls2.mpr (by omega)⟩
              · rw [mi_s, C3, nI_1]; rfl
            · have ee : s + i = xE tl tp s := by
                refine Classical.byContradiction (fun z => ?_)
                have q := xr.2.2.1 (s + i) (by omega) (by omega)
                rw [bv3, if_pos q.1] at c3
                have := cls2.mp (q.2.trans k2)
                omega
              refine brT rfl ?_
              refine run_go 8 ?_
              by_cases c4 : 3 < xE tl tp s - s
              · refine brF (by rw [C3, S3]; exact (by simp (disch := first | omega | (simp (disch := omega) only [nI_toInt, Int32.reduceToInt, i_sub, i_add, i_mul]; omega)) only [iNONE, i_lt, i_le, i_eq, i_in, nI_toInt, Int32.reduceToInt, i_sub, i_add, i_mul]; omega)) ?_
                refine run_go 4 ?_
                refine fin _ [some (sI (nI (tp s)))] (s + i) (F3.mi (by unfold fTr; omega)) E3 ((mi_k (by decide)).trans C3) ((mi_k (by decide)).trans S3) ?_ (fun _ => ee)
                rw [mi_s]
                unfold xK
                rw [if_pos ⟨k2, c4⟩]; rfl
              · refine brT (by rw [C3, S3]; exact (by simp (disch := first | omega | (simp (disch := omega) only [nI_toInt, Int32.reduceToInt, i_sub, i_add, i_mul]; omega)) only [iNONE, i_lt, i_le, i_eq, i_in, nI_toInt, Int32.reduceToInt, i_sub, i_add, i_mul]; omega)) ?_
                refine run_go 3 ?_
                refine fin _ [some (sI (nI (tp s)))] (s + i) (F3.mi (by unfold fTr; omega)) E3 ((mi_k (by decide)).trans C3) ((mi_k (by decide)).trans S3) ?_ (fun _ => ee)
                rw [mi_s]
                unfold xK
                rw [if_neg (fun z => c4 z.2), k2]; rfl
          · rw [nI_toInt (by omega)] at c2
            have n1 : xC tl tp s ≠ 1 := fun z => by rw [xc] at z; have := cls1.mp z; omega
            have n2 : xC tl tp s ≠ 2 := fun z => by rw [xc] at z; have := cls2.mp z; omega
            have n5 : xC tl tp s ≠ 5 := fun z => sp.2.2.1 ⟨c0, by rw [← xc]; exact z⟩
            have cl := cls_le (b := tp s)
            have x1 : xE tl tp s = s + 1 := x_one (by omega)
            have xk : xK tl tp s = xC tl tp s := if_neg (fun z => n2 z.1)
            have C4 : ∀ y, (m_i (m_i M2 41 0 24 (M2.1 41 0 24 + 1)) 41 0 25 y).1 41 0 24 = nI (s + 1) := fun y => by rw [mi_k (by decide), mi_s, C2, nI_1]
            have S4 : ∀ y, (m_i (m_i M2 41 0 24 (M2.1 41 0 24 + 1)) 41 0 25 y).1 41 0 26 = nI s := fun y => by rw [mi_k (by decide), mi_k (by decide)]; exact S2
            refine brT rfl ?_
            refine run_go 10 ?_
            by_cases c3 : tp s = 59
            · refine brnT (by rw [c3]; rfl) ?_
              refine run_go 3 ?_
              refine fin _ [some (sI (nI (tp s)))] (s + 1) ((F2.mi (by unfold fTr; omega)).mi (by unfold fTr; omega)) E2 (C4 _) (S4 _) ?_ (fun _ => x1.symm)
              rw [mi_s, xk, xc, cls3.mpr c3]; rfl
            · refine brnF (by exact (by simp (disch := first | omega | (simp (disch := omega) only [nI_toInt, Int32.reduceToInt, i_sub, i_add, i_mul]; omega)) only [iNONE, i_lt, i_le, i_eq, i_in, nI_toInt, Int32.reduceToInt, i_sub, i_add, i_mul]; omega)) ?_
              refine run_go 2 ?_
              refine fin _ [some (sI (nI (tp s)))] (s + 1) ((F2.mi (by unfold fTr; omega)).mi (by unfold fTr; omega)) E2 (C4 _) (S4 _) ?_ (fun _ => x1.symm)
              have k4 : xC tl tp s = 4 := by
                rw [xc] at n1 n2 n5 ⊢
                have : cls (tp s) ≠ 3 := fun z => c3 (cls3.mp z)
                omega
              rw [mi_s, xk, k4]; rfl
      · rw [if_neg c0]
        refine brnT rfl ?_
        refine run_go 4 ?_
        refine fin _ [some (sI nONE)] s (F2.mi (by unfold fTr; omega)) E2 ((mi_k (by decide)).trans C2) ((mi_k (by decide)).trans S2) ?_ (fun z => absurd z c0)
        rw [mi_s]
        unfold xK
        rw [xC_0 c0, if_neg (by omega)]; rfl
    refine run_go 4 ?_
    show Run k12_step (Call (d + 1)) Q 47 [some (sR 41 0)] [] (m_i μ1 41 0 26 (μ1.1 41 0 24))
    rw [C1]
    exact key
  have bv1 := bv (p + i)
  unfold byR at bv1
  refine run_go 6 ?_
  refine r12_byteAt C1 (by omega) T1 ?_
  have up : i < s - p → Run k12_step (Call (d + 1)) Q 26 [some (sR 41 0)] [] μ1 := by
    intro hlt
    refine run_go 7 ?_
    refine kk _ _ hlt ⟨rfl, ?_, F1.mi (by unfold fTr; omega), E1⟩
    rw [mi_s, C1, nI_1]; rfl
  by_cases e : i < s - p
  · have q := sp.2.1 (p + i) (by omega) (by omega)
    rw [if_pos q.1]
    have q5 := cls5.mp q.2
    have hb := (hT.2.2 _ q.1).1
    by_cases c1 : tp (p + i) = 32
    · refine brT (by rw [c1]; rfl) ?_
      exact up e
    · refine brF (by exact (by simp (disch := first | omega | (simp (disch := omega) only [nI_toInt, Int32.reduceToInt, i_sub, i_add, i_mul]; omega)) only [iNONE, i_lt, i_le, i_eq, i_in, nI_toInt, Int32.reduceToInt, i_sub, i_add, i_mul]; omega)) ?_
      refine run_go 6 ?_
      refine r12_byteAt C1 (by omega) T1 ?_
      rw [if_pos q.1]
      refine brnT (by rw [show tp (p + i) = 10 by omega]; rfl) ?_
      exact up e
  · have es : p + i = s := by omega
    have nb : ¬ (if p + i < tl then nI (tp (p + i)) else nONE) = 32 ∧ ¬ (if p + i < tl then nI (tp (p + i)) else nONE) = 10 := by
      rw [i_eq, i_eq, bv1, show (32 : Int32).toInt = 32 from by decide, show (10 : Int32).toInt = 10 from by decide]
      by_cases c0 : p + i < tl
      · rw [if_pos c0]
        have := sp.2.2.1
        rw [← es] at this
        have n5 : ¬ cls (tp (p + i)) = 5 := fun z => this ⟨c0, z⟩
        rw [cls5] at n5
        omega
      · rw [if_neg c0]; omega
    refine brF nb.1 ?_
    refine run_go 6 ?_
    refine r12_byteAt C1 (by omega) T1 ?_
    refine brnF nb.2 ?_
    exact body (by omega)
end OP
