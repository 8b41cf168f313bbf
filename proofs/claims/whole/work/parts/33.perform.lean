/-! an order, done -/
noncomputable def iteP {α : Type} (P : Prop) (a b : α) : α := @ite α P (Classical.propDecidable P) a b
theorem iteP_t {α : Type} {P : Prop} {a b : α} (h : P) : iteP P a b = a := if_pos h
theorem iteP_f {α : Type} {P : Prop} {a b : α} (h : ¬ P) : iteP P a b = b := if_neg h
noncomputable def stE (so : Nat → Nat) (n a r b i : Nat) (p : tT × Nat × Nat) : tT × Nat × Nat :=
  iteP (so i = a ∧ ¬ atT so n p.1 i r b) (iteP (ptT so n p.1 i r b) (goT p.1 i (wtT so n p.1 i r b), p.2.1 + 1, p.2.2 + 1) (p.1, p.2.1 + 1, p.2.2)) p
noncomputable def evT (so : Nat → Nat) (n a r b : Nat) (T : tT) : Nat → tT × Nat × Nat
  | 0 => (T, 0, 0)
  | i + 1 => stE so n a r b i (evT so n a r b T i)
def foP (so : Nat → Nat) (n : Nat) (T : tT) (a r b : Nat) : Nat → Prop := fun i => so i = a ∧ ¬ atT so n T i r b ∧ frT T i
/-- how many things are put (99: it fails), and the table then -/
noncomputable def odT (so : Nat → Nat) (n : Nat) (T : tT) (o : Nat) : Nat × tT :=
  if o % 2 = 1 then (if (evT so n (o / 2 % 4) (o / 8 % 3) (o / 24) T n).2.2 = 0 ∧ 0 < (evT so n (o / 2 % 4) (o / 8 % 3) (o / 24) T n).2.1 then (99, T) else ((evT so n (o / 2 % 4) (o / 8 % 3) (o / 24) T n).2.2, (evT so n (o / 2 % 4) (o / 8 % 3) (o / 24) T n).1))
  else if fstN (foP so n T (o / 2 % 4) (o / 8 % 3) (o / 24)) n = 99 then (99, T)
  else iteP (ptT so n T (fstN (foP so n T (o / 2 % 4) (o / 8 % 3) (o / 24)) n) (o / 8 % 3) (o / 24)) (1, goT T (fstN (foP so n T (o / 2 % 4) (o / 8 % 3) (o / 24)) n) (wtT so n T (fstN (foP so n T (o / 2 % 4) (o / 8 % 3) (o / 24)) n) (o / 8 % 3) (o / 24))) (99, T)
section CO
variable {d t n k c s a b r u o : Nat} {μ : sM} {Q : sQ} {so wt : Nat → Nat} {T : tT} {x y z : Int32}
theorem ev_wf (hw : wfT so n T) (hn : n ≤ 6) : ∀ i, i ≤ n → wfT so n (evT so n a r b T i).1 ∧ (evT so n a r b T i).2.1 ≤ i ∧ (evT so n a r b T i).2.2 ≤ (evT so n a r b T i).2.1 ∧ ((evT so n a r b T i).2.2 = 0 → (evT so n a r b T i).1 = T)
  | 0, _ => ⟨hw, Nat.le_refl _, Nat.le_refl _, fun _ => rfl⟩
  | i + 1, hi => by
    have ih := ev_wf hw hn i (by omega)
    show wfT so n (stE so n a r b i (evT so n a r b T i)).1 ∧ (stE so n a r b i (evT so n a r b T i)).2.1 ≤ i + 1 ∧ (stE so n a r b i (evT so n a r b T i)).2.2 ≤ (stE so n a r b i (evT so n a r b T i)).2.1 ∧ ((stE so n a r b i (evT so n a r b T i)).2.2 = 0 → (stE so n a r b i (evT so n a r b T i)).1 = T)
    generalize evT so n a r b T i = p at ih ⊢
    unfold stE
    by_cases e : so i = a ∧ ¬ atT so n p.1 i r b
    · rw [iteP_t e]
      by_cases e2 : ptT so n p.1 i r b
      · rw [iteP_t e2]
        have h3 := wt_lt ih.1 hn e2.1
        exact ⟨wf_go ih.1 hn (by omega) h3 e2.2, Nat.succ_le_succ ih.2.1, Nat.succ_le_succ ih.2.2.1, fun z => absurd z (Nat.succ_ne_zero _)⟩
      · rw [iteP_f e2]
        exact ⟨ih.1, Nat.succ_le_succ ih.2.1, Nat.le_succ_of_le ih.2.2.1, ih.2.2.2⟩
    · rw [iteP_f e]
      exact ⟨ih.1, Nat.le_succ_of_le ih.2.1, ih.2.2⟩
theorem od_wf (hw : wfT so n T) (hn : n ≤ 6) : wfT so n (odT so n T o).2 ∧ ((odT so n T o).1 = 99 ∨ (odT so n T o).1 ≤ n) ∧ ((odT so n T o).1 = 99 → (odT so n T o).2 = T) := by
  unfold odT
  by_cases e : o % 2 = 1
  · rw [if_pos e]
    have h := ev_wf hw hn (a := o / 2 % 4) (r := o / 8 % 3) (b := o / 24) n (Nat.le_refl n)
    by_cases e2 : (evT so n (o / 2 % 4) (o / 8 % 3) (o / 24) T n).2.2 = 0 ∧ 0 < (evT so n (o / 2 % 4) (o / 8 % 3) (o / 24) T n).2.1
    · rw [if_pos e2]; exact ⟨hw, Or.inl rfl, fun _ => rfl⟩
    · rw [if_neg e2]
      refine ⟨h.1, Or.inr ?_, fun z => ?_⟩
      · show (evT so n (o / 2 % 4) (o / 8 % 3) (o / 24) T n).2.2 ≤ n
        omega
      · have z : (evT so n (o / 2 % 4) (o / 8 % 3) (o / 24) T n).2.2 = 99 := z
        omega
  · rw [if_neg e]
    rcases fstN_sp (P := foP so n T (o / 2 % 4) (o / 8 % 3) (o / 24)) (n := n) (by omega) with g | g
    · rw [if_pos g.1]; exact ⟨hw, Or.inl rfl, fun _ => rfl⟩
    · rw [if_neg (by omega)]
      generalize fstN (foP so n T (o / 2 % 4) (o / 8 % 3) (o / 24)) n = v at g ⊢
      by_cases e2 : ptT so n T v (o / 8 % 3) (o / 24)
      · rw [iteP_t e2]
        exact ⟨wf_go hw hn g.1 (wt_lt hw hn e2.1) e2.2, Or.inr (by show 1 ≤ n; omega), fun z => absurd z (by show ¬ 1 = 99; decide)⟩
      · rw [iteP_f e2]; exact ⟨hw, Or.inl rfl, fun _ => rfl⟩
theorem pf_tail {e w m th : Nat} {v1 v3 v4 : Option sv} {v0 v2 : Option sv} (he : e ≤ 1) (hw : w ≤ 6) (hm : m ≤ 6) (h1 : ¬ (m = 0 ∧ (0 < w ∨ e = 0)) → Q (nI m) 0 (0, 0) μ) (h2 : m = 0 ∧ (0 < w ∨ e = 0) → Q (-1) 0 (0, 0) μ) :
    Run k3_perform (Call d) Q 123 [v0, v1, v2, v3, v4, some (sI (nI e)), some (sI (nI w)), some (sI (nI m)), some (sI (nI th))] [] μ := by
  refine run_go 30 ?_
  by_cases e1 : m = 0
  · refine brnT (by simp (disch := first | omega | (simp (disch := omega) only [nI_toInt, Int32.reduceToInt, i_sub, i_add, i_mul]; omega)) only [iNONE, i_lt, i_le, i_eq, i_in, nI_toInt, Int32.reduceToInt, i_sub, i_add, i_mul]; omega) ?_
    by_cases e2 : 0 < w
    · refine brT (by simp (disch := first | omega | (simp (disch := omega) only [nI_toInt, Int32.reduceToInt, i_sub, i_add, i_mul]; omega)) only [iNONE, i_lt, i_le, i_eq, i_in, nI_toInt, Int32.reduceToInt, i_sub, i_add, i_mul]; omega) ?_
      refine brF (by decide) ?_
      exact h2 ⟨e1, Or.inl e2⟩
    · refine brF (by simp (disch := first | omega | (simp (disch := omega) only [nI_toInt, Int32.reduceToInt, i_sub, i_add, i_mul]; omega)) only [iNONE, i_lt, i_le, i_eq, i_in, nI_toInt, Int32.reduceToInt, i_sub, i_add, i_mul]; omega) ?_
      by_cases e3 : e = 0
      · refine brnT (by simp (disch := first | omega | (simp (disch := omega) only [nI_toInt, Int32.reduceToInt, i_sub, i_add, i_mul]; omega)) only [iNONE, i_lt, i_le, i_eq, i_in, nI_toInt, Int32.reduceToInt, i_sub, i_add, i_mul]; omega) ?_
        refine brF (by decide) ?_
        exact h2 ⟨e1, Or.inr e3⟩
      · refine brnF (by simp (disch := first | omega | (simp (disch := omega) only [nI_toInt, Int32.reduceToInt, i_sub, i_add, i_mul]; omega)) only [iNONE, i_lt, i_le, i_eq, i_in, nI_toInt, Int32.reduceToInt, i_sub, i_add, i_mul]; omega) ?_
        refine brT rfl ?_
        exact h1 (fun z => by omega)
  · refine brnF (by simp (disch := first | omega | (simp (disch := omega) only [nI_toInt, Int32.reduceToInt, i_sub, i_add, i_mul]; omega)) only [iNONE, i_lt, i_le, i_eq, i_in, nI_toInt, Int32.reduceToInt, i_sub, i_add, i_mul]; omega) ?_
    refine brT rfl ?_
    exact h1 (fun z => e1 z.1)
theorem c3_perform (hx : x = nI o) (ho : o < 96) (hw : wfT so n T) (hS : stkC μ n so wt) (hT : tabC μ t n T) (h1 : (odT so n T o).1 ≠ 99 → ∀ μ', agT t μ μ' → tabC μ' t n (odT so n T o).2 → Q (nI (odT so n T o).1) 0 (0, 0) μ') (h2 : (odT so n T o).1 = 99 → ∀ μ', agT t μ μ' → tabC μ' t n T → Q (-1) 0 (0, 0) μ') : Call (d + 6) n3_perform [sR 13 0, sI x, sR 8 t] μ Q := by
  subst hx
  have hn := hS.2.1
  refine call_go (cd := k3_perform) 15 rfl rfl ?_
  refine c3_relOf rfl ho ?_
  refine c3_otherSort rfl ho ?_
  unfold odT at h1 h2
  have ha : o / 2 % 4 < 4 := Nat.mod_lt _ (by decide)
  have hr : o / 8 % 3 < 3 := Nat.mod_lt _ (by decide)
  have hb : o / 24 < 4 := by omega
  refine c3_isEach rfl ho (fun e => ?_) (fun e => ?_)
  · rw [if_pos e] at h1 h2
    refine loopC (cd := k3_perform) (d := d + 5) (Q := Q) n (fun i ls μ' => ls = [some (sR 13 0), some (sI (nI o)), some (sR 8 t), some (sI (nI (o / 8 % 3))), some (sI (nI (o / 24))), some (sI 1), some (sI (nI (evT so n (o / 2 % 4) (o / 8 % 3) (o / 24) T i).2.1)), some (sI (nI (evT so n (o / 2 % 4) (o / 8 % 3) (o / 24) T i).2.2)), some (sI (nI i))] ∧ agT t μ μ' ∧ tabC μ' t n (evT so n (o / 2 % 4) (o / 8 % 3) (o / 24) T i).1) 26 0 [some (sR 13 0), some (sI (nI o)), some (sR 8 t), some (sI (nI (o / 8 % 3))), some (sI (nI (o / 24))), some (sI 1), some (sI 0), some (sI 0), some (sI 0)] μ (Nat.zero_le n) ⟨rfl, agT.rf, hT⟩ ?_
    rintro i ls μ' hi ⟨rfl, g1, g2⟩ kk
    have hS' := hS.ag g1
    have hv := ev_wf hw hn (a := o / 2 % 4) (r := o / 8 % 3) (b := o / 24) i hi
    refine run_go 5 ?_
    refine c8_size hS' ?_
    by_cases e1 : i = n
    · refine brT (by simp (disch := first | omega | (simp (disch := omega) only [nI_toInt, Int32.reduceToInt, i_sub, i_add, i_mul]; omega)) only [iNONE, i_lt, i_le, i_eq, i_in, nI_toInt, Int32.reduceToInt, i_sub, i_add, i_mul]; omega) ?_
      subst e1
      refine pf_tail (e := 1) (Nat.le_refl 1) (by omega) (by omega) (fun z => ?_) (fun z => ?_)
      · rw [if_neg (fun q => z ⟨q.1, Or.inl q.2⟩)] at h1
        exact h1 (by show ¬ (evT so i (o / 2 % 4) (o / 8 % 3) (o / 24) T i).2.2 = 99; omega) μ' g1 g2
      · have z2 : (evT so i (o / 2 % 4) (o / 8 % 3) (o / 24) T i).2.2 = 0 ∧ 0 < (evT so i (o / 2 % 4) (o / 8 % 3) (o / 24) T i).2.1 := ⟨z.1, by rcases z.2 with q | q; exact q; omega⟩
        rw [if_pos z2] at h2
        rw [hv.2.2.2 z.1] at g2
        exact h2 rfl μ' g1 g2
    · refine brF (by simp (disch := first | omega | (simp (disch := omega) only [nI_toInt, Int32.reduceToInt, i_sub, i_add, i_mul]; omega)) only [iNONE, i_lt, i_le, i_eq, i_in, nI_toInt, Int32.reduceToInt, i_sub, i_add, i_mul]; omega) ?_
      have hs := hS.2.2 i (by omega)
      have kk := fun ls' μ' => kk ls' μ' (by omega)
      have ev1 : evT so n (o / 2 % 4) (o / 8 % 3) (o / 24) T (i + 1) = stE so n (o / 2 % 4) (o / 8 % 3) (o / 24) i (evT so n (o / 2 % 4) (o / 8 % 3) (o / 24) T i) := rfl
      rw [ev1] at kk
      generalize evT so n (o / 2 % 4) (o / 8 % 3) (o / 24) T i = p at kk g2 hv
      unfold stE at kk
      refine run_go 7 ?_
      refine c8_sortOf rfl hS' (by omega) ?_
      refine c3_movedSort rfl ho ?_
      by_cases e2 : so i = o / 2 % 4
      · refine brnT (by rw [e2]) ?_
        refine run_go 6 ?_
        refine c9_isAsTold rfl rfl rfl hv.1 hS' g2 (by omega) hr hb (fun e3 => ?_) (fun e3 => ?_)
        · refine brF (by decide) ?_
          rw [iteP_f (fun z => z.2 e3)] at kk
          refine run_go 3 ?_
          exact kk _ _ ⟨by rw [← nI_1], g1, g2⟩
        · refine brT rfl ?_
          rw [iteP_t ⟨e2, e3⟩] at kk
          refine run_go 2 ?_
          refine brnF (by decide) ?_
          refine run_go 9 ?_
          refine c3_put rfl rfl rfl hv.1 hS' g2 (by omega) hr hb (fun e4 μ'' g3 g4 => ?_) (fun e4 => ?_)
          · refine brF (by decide) ?_
            rw [iteP_t e4] at kk
            refine run_go 6 ?_
            refine brnF (by decide) ?_
            refine run_go 2 ?_
            exact kk _ _ ⟨by rw [← nI_1, ← nI_1, ← nI_1], g1.tr g3, g4⟩
          · refine brT rfl ?_
            rw [iteP_f e4] at kk
            refine run_go 5 ?_
            refine brnF (by decide) ?_
            refine run_go 2 ?_
            refine kk _ _ ⟨?_, g1, g2⟩
            rw [← nI_1, ← nI_1]
            show _ = [some (sR 13 0), some (sI (nI o)), some (sR 8 t), some (sI (nI (o / 8 % 3))), some (sI (nI (o / 24))), some (sI 1), some (sI (nI p.2.1 + 1)), some (sI (nI p.2.2)), some (sI (nI i + 1))]
            rw [show nI p.2.2 + 0 = nI p.2.2 from nI_add p.2.2 0]
      · refine brnF (fun z => e2 ((nI_eq (by omega) (by omega)).mp z)) ?_
        rw [iteP_f (fun z => e2 z.1)] at kk
        refine run_go 2 ?_
        exact kk _ _ ⟨by rw [← nI_1], g1, g2⟩
  · rw [if_neg e] at h1 h2
    refine loopS (cd := k3_perform) (d := d + 5) (Q := Q) n (foP so n T (o / 2 % 4) (o / 8 % 3) (o / 24)) (fun j => [some (sR 13 0), some (sI (nI o)), some (sR 8 t), some (sI (nI (o / 8 % 3))), some (sI (nI (o / 24))), some (sI 0), some (sI 0), some (sI 0), some (sI j)]) μ 26 (fun hp => ?_) (fun i hi hp kk => ?_)
    · refine run_go 5 ?_
      refine c8_size hS ?_
      refine brT (by simp (disch := first | omega | (simp (disch := omega) only [nI_toInt, Int32.reduceToInt, i_sub, i_add, i_mul]; omega)) only [iNONE, i_lt, i_le, i_eq, i_in, nI_toInt, Int32.reduceToInt, i_sub, i_add, i_mul]; omega) ?_
      rw [if_pos (fstN_no hp)] at h2
      exact pf_tail (e := 0) (w := 0) (m := 0) (by omega) (by omega) (by omega) (fun z => absurd ⟨rfl, Or.inr rfl⟩ z) (fun _ => h2 rfl μ agT.rf hT)
    · have hs := hS.2.2 i hi
      refine run_go 5 ?_
      refine c8_size hS ?_
      refine brF (by simp (disch := first | omega | (simp (disch := omega) only [nI_toInt, Int32.reduceToInt, i_sub, i_add, i_mul]; omega)) only [iNONE, i_lt, i_le, i_eq, i_in, nI_toInt, Int32.reduceToInt, i_sub, i_add, i_mul]; omega) ?_
      refine run_go 7 ?_
      refine c8_sortOf rfl hS hi ?_
      refine c3_movedSort rfl ho ?_
      by_cases e2 : so i = o / 2 % 4
      · refine brnT (by rw [e2]) ?_
        refine run_go 6 ?_
        refine c9_isAsTold rfl rfl rfl hw hS hT hi hr hb (fun e3 => ?_) (fun e3 => ?_)
        · refine brF (by decide) ?_
          refine run_go 3 ?_
          exact kk (fun z => z.2.1 e3)
        · refine brT rfl ?_
          refine run_go 2 ?_
          refine brnT rfl ?_
          refine run_go 4 ?_
          refine c9_isFree rfl hw hn hT hi (fun e4 => ?_) (fun e4 => ?_)
          · refine brF (by decide) ?_
            have e5 := fstN_is (P := foP so n T (o / 2 % 4) (o / 8 % 3) (o / 24)) ⟨e2, e3, e4⟩ hp hi (by omega)
            rw [if_neg (by omega), e5] at h1 h2
            refine run_go 9 ?_
            refine c3_put rfl rfl rfl hw hS hT hi hr hb (fun e6 μ'' g3 g4 => ?_) (fun e6 => ?_)
            · refine brF (by decide) ?_
              rw [iteP_t e6] at h1
              refine run_go 6 ?_
              refine brnT rfl ?_
              refine run_go 1 ?_
              exact pf_tail (e := 0) (w := 1) (m := 1) (th := i) (by omega) (by omega) (by omega) (fun _ => h1 (by show ¬ 1 = 99; decide) μ'' g3 g4) (fun z => absurd z.1 (by decide))
            · refine brT rfl ?_
              rw [iteP_f e6] at h2
              refine run_go 5 ?_
              refine brnT rfl ?_
              refine run_go 1 ?_
              exact pf_tail (e := 0) (w := 1) (m := 0) (th := i) (by omega) (by omega) (by omega) (fun z => absurd ⟨rfl, Or.inr rfl⟩ z) (fun _ => h2 rfl μ agT.rf hT)
          · refine brT rfl ?_
            refine run_go 2 ?_
            exact kk (fun z => e4 z.2.2)
      · refine brnF (fun z => e2 ((nI_eq (by omega) (by omega)).mp z)) ?_
        refine run_go 2 ?_
        exact kk (fun z => e2 z.1)
end CO
