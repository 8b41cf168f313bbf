/-! the tape is read: the reference, and both -/
section OP
variable {d n k c s a b r u o i m t tl j l nv w0 J : Nat} {tp p w q : Nat → Nat} {μ μ' μ'' M : sM} {Q : sQ} {x y z v : Int32} {ξ : Nat → Nat → Int32} {O : oT}
theorem r12_nevers (hl : tl ≤ 300) (h21 : μ.1 41 0 21 = nI tl) (h55 : ∀ k, k < tl → tp k < 256 ∧ μ.1 55 0 k = nI (tp k)) (hnv : μ.1 41 0 17 = nI nv) (hJ : laN tl tp nv J)
    (h1 : xK tl tp (sqT tl tp nv J) = 0 → ∀ μ', frm (fCs nv) μ μ' → μ'.2 = μ.2 → μ'.1 41 0 17 = nI (nv + J) → μ'.1 41 0 21 = 0 → μ'.1 41 0 22 = μ.1 41 0 22 → nvsR μ' tl tp nv J → Q (nI (nv + J)) 0 (0, 0) μ')
    (h2 : xK tl tp (sqT tl tp nv J) ≠ 0 → ∀ μ', frm (fCs nv) μ μ' → μ'.2 = μ.2 → μ'.1 41 0 17 = nI nv → μ'.1 41 0 21 = 0 → μ'.1 41 0 22 = nI (oqN tl tp nv J).1 → Q (-1000100 - nI (oqN tl tp nv J).2.1) 0 (0, 0) μ') : Call (d + 6) n12_nevers [sR 41 0] μ Q := by
  have J16 := hJ.1
  refine call_go (cd := k12_nevers) 22 rfl rfl ?_
  show Call (d + 5) n12_step [sR 41 0] (m_i (m_i (m_i (m_i (m_i (m_i μ 41 0 0 0) 41 0 23 (μ.1 41 0 21)) 41 0 21 0) 41 0 24 0) 41 0 28 0) 41 0 19 (μ.1 41 0 17)) _
  rw [h21, hnv]
  have g23 : (m_i (m_i (m_i (m_i (m_i (m_i μ 41 0 0 0) 41 0 23 (nI tl)) 41 0 21 0) 41 0 24 0) 41 0 28 0) 41 0 19 (nI nv)).1 41 0 23 = nI tl := by
    rw [mi_k (by decide), mi_k (by decide), mi_k (by decide), mi_k (by decide), mi_s]
  have g21 : (m_i (m_i (m_i (m_i (m_i (m_i μ 41 0 0 0) 41 0 23 (nI tl)) 41 0 21 0) 41 0 24 0) 41 0 28 0) 41 0 19 (nI nv)).1 41 0 21 = 0 := by
    rw [mi_k (by decide), mi_k (by decide), mi_k (by decide), mi_s]
  have g24 : (m_i (m_i (m_i (m_i (m_i (m_i μ 41 0 0 0) 41 0 23 (nI tl)) 41 0 21 0) 41 0 24 0) 41 0 28 0) 41 0 19 (nI nv)).1 41 0 24 = nI 0 := by
    rw [mi_k (by decide), mi_k (by decide), mi_s]; rfl
  have g28 : (m_i (m_i (m_i (m_i (m_i (m_i μ 41 0 0 0) 41 0 23 (nI tl)) 41 0 21 0) 41 0 24 0) 41 0 28 0) 41 0 19 (nI nv)).1 41 0 28 = 0 := by
    rw [mi_k (by decide), mi_s]
  have g19 : (m_i (m_i (m_i (m_i (m_i (m_i μ 41 0 0 0) 41 0 23 (nI tl)) 41 0 21 0) 41 0 24 0) 41 0 28 0) 41 0 19 (nI nv)).1 41 0 19 = nI nv := mi_s
  have gF : frm (fCr nv) μ (m_i (m_i (m_i (m_i (m_i (m_i μ 41 0 0 0) 41 0 23 (nI tl)) 41 0 21 0) 41 0 24 0) 41 0 28 0) 41 0 19 (nI nv)) := by
    refine (((((frm.rf.mi ?_).mi ?_).mi ?_).mi ?_).mi ?_).mi ?_ <;> (unfold fCr; omega)
  have gE : (m_i (m_i (m_i (m_i (m_i (m_i μ 41 0 0 0) 41 0 23 (nI tl)) 41 0 21 0) 41 0 24 0) 41 0 28 0) 41 0 19 (nI nv)).2 = μ.2 := rfl
  generalize m_i (m_i (m_i (m_i (m_i (m_i μ 41 0 0 0) 41 0 23 (nI tl)) 41 0 21 0) 41 0 24 0) 41 0 28 0) 41 0 19 (nI nv) = M at g23 g21 g24 g28 g19 gF gE ⊢
  have T0 : tpR M tl tp := ⟨hl, g23, fun k hk => ⟨(h55 k hk).1, (gF 55 0 k (by unfold fCr; omega)).trans (h55 k hk).2⟩⟩
  refine r12_step (p := 0) T0 (Nat.zero_le _) g24 (fun μ1 F1 E1 K1 => ?_)
  refine loopC (cd := k12_nevers) (d := d + 5) (Q := Q) J (fun i ls μ' => ls = [some (sR 41 0)] ∧ tpR μ' tl tp ∧ tkR μ' tl tp (sqT tl tp nv i) ∧ μ'.1 41 0 28 = 0 ∧ μ'.1 41 0 19 = nI (nv + i) ∧ μ'.1 41 0 21 = 0 ∧ frm (fCr nv) μ μ' ∧ μ'.2 = μ.2 ∧ nvsR μ' tl tp nv i) 40 0 _ _ (Nat.zero_le _) ⟨rfl, T0.fr F1, K1, (F1 41 0 28 (by unfold fTr; omega)).trans g28, (F1 41 0 19 (by unfold fTr; omega)).trans g19, (F1 41 0 21 (by unfold fTr; omega)).trans g21, gF.tr (F1.sub (fun a i k z => by unfold fCr at z; unfold fTr; omega)), E1.trans gE, fun j hj => absurd hj (Nat.not_lt_zero j)⟩ ?_
  rintro i ls μ2 hi ⟨rfl, T2, K2, f2, n2, t2, F2, E2, V2⟩ kk
  have rk := rk_ok _ (xK_le (tl := tl) (tp := tp) (s := sqT tl tp nv i))
  refine run_go 3 ?_
  refine brnT f2 ?_
  refine run_go 4 ?_
  by_cases e : xK tl tp (sqT tl tp nv i) = 0
  · have iJ : i = J := by
      refine Classical.byContradiction (fun z => ?_)
      exact (hJ.2.1 i (by omega)).1 e
    subst iJ
    refine brT (by rw [K2.2.1, rk.2.2.2.2.mpr e]; rfl) ?_
    refine run_go 3 ?_
    refine brT (by rw [f2]; decide) ?_
    refine run_go 20 ?_
    show Q ((m_i μ2 41 0 17 (μ2.1 41 0 19)).1 41 0 17) 0 (0, 0) (m_i μ2 41 0 17 (μ2.1 41 0 19))
    rw [mi_s, n2]
    refine h1 e _ ((F2.sub (fun a i k z => by unfold fCs at z; unfold fCr; omega)).mi (by unfold fCs; omega)) E2 mi_s ?_ ?_ (fun j hj => ?_)
    · rw [mi_k (by decide)]; exact t2
    · rw [mi_k (by decide)]; exact F2 41 0 22 (by unfold fCr; omega)
    · exact (V2 j hj).fr (fun k _ => mi_t (by decide))
  · refine brF (by
      rw [K2.2.1]
      intro z
      exact e (rk.2.2.2.2.mp ((nI_eq (a := rkW (xK tl tp (sqT tl tp nv i))) (b := 1) (by omega) (by omega)).mp z))) ?_
    refine run_go 3 ?_
    refine r12_readNever (c := nv + i) T2 K2 f2 n2 (by omega) (fun o1 μ3 F3 E3 K3 f3 n3 V3 => ?_) (fun o1 μ3 F3 E3 c3 p3 => ?_)
    · have iJ : i < J := by
        refine Classical.byContradiction (fun z => ?_)
        have : i = J := by omega
        subst this
        rcases hJ.2.2 with q | q
        · exact e q
        · exact q o1
      refine kk _ _ iJ ⟨rfl, ⟨T2.1, ?_, fun k hk => ⟨(T2.2.2 k hk).1, ?_⟩⟩, K3, f3, n3, ?_, F2.tr (F3.sub (fun a i k z => by unfold fCr at z; unfold fRr; omega)), E3.trans E2, fun j hj => ?_⟩
      · rw [F3 41 0 23 (by unfold fRr; omega)]; exact T2.2.1
      · rw [F3 55 0 k (by unfold fRr; omega)]; exact (T2.2.2 k hk).2
      · rw [F3 41 0 21 (by unfold fRr; omega)]; exact t2
      · by_cases e : j = i
        · subst e; exact V3
        · exact (V2 j (by omega)).fr (fun k hk => F3 54 0 k (by unfold fRr; omega))
    · have iJ : i = J := by
        refine Classical.byContradiction (fun z => ?_)
        exact o1 (hJ.2.1 i (by omega)).2
      subst iJ
      have ob : nvO (oqN tl tp nv i) := rdO_ok
      have o4 : 0 < (oqN tl tp nv i).1 ∧ (oqN tl tp nv i).1 < 4 := by
        rcases ob with z | z
        · exact absurd z.1 o1
        · exact z
      have c3' : μ3.1 41 0 28 = nI (oqN tl tp nv i).1 := c3
      show Run k12_nevers (Call (d + 5)) Q 40 [some (sR 41 0)] [] μ3
      refine run_go 3 ?_
      refine brnF (by rw [c3']; exact (by simp (disch := first | omega | (simp (disch := omega) only [nI_toInt, Int32.reduceToInt, i_sub, i_add, i_mul]; omega)) only [iNONE, i_lt, i_le, i_eq, i_in, nI_toInt, Int32.reduceToInt, i_sub, i_add, i_mul]; omega)) ?_
      refine run_go 3 ?_
      refine brF (by rw [c3']; exact (by simp (disch := first | omega | (simp (disch := omega) only [nI_toInt, Int32.reduceToInt, i_sub, i_add, i_mul]; omega)) only [iNONE, i_lt, i_le, i_eq, i_in, nI_toInt, Int32.reduceToInt, i_sub, i_add, i_mul]; omega)) ?_
      refine run_go 20 ?_
      show Q (-1000100 - (m_i μ3 41 0 22 (μ3.1 41 0 28)).1 41 0 29) 0 (0, 0) (m_i μ3 41 0 22 (μ3.1 41 0 28))
      rw [mi_k (by decide), p3, c3']
      refine h2 e _ (((F2.sub (fun a i k z => by unfold fCs at z; unfold fCr; omega)).tr (F3.sub (fun a i k z => by unfold fCs at z; unfold fRr; omega))).mi (by unfold fCs; omega)) (E3.trans E2) ?_ ?_ mi_s
      · rw [mi_k (by decide), F3 41 0 17 (by unfold fRr; omega), F2 41 0 17 (by unfold fCr; omega)]; exact hnv
      · rw [mi_k (by decide), F3 41 0 21 (by unfold fRr; omega)]; exact t2
theorem op_nevers (hI : INV ξ μ) (h : ∀ v μ', opQ ξ (d + 20) n12_nevers [sR 41 0] v μ' → Q v 0 (0, 0) μ') : Call (d + 20) n11_nevers [sR 0 0] μ Q := by
  obtain ⟨n, so, wt, κ, tb, lr, hT, hL, hO⟩ := id hI
  obtain ⟨nv, p, w, q, hN⟩ := hO.2.2.1
  obtain ⟨tl, tp, hP⟩ := hO.2.2.2.1
  obtain ⟨J, hJ⟩ := laN_ex (tl := tl) (tp := tp) hN.1
  have TC : tpC μ tl tp := ⟨hP.1, hP.2.1, fun k hk => ⟨(hP.2.2.2.2 k hk).1, (hP.2.2.2.2 k hk).2.1⟩⟩
  refine call_go (cd := k11_nevers) 40 rfl rfl ?_
  refine c4_readTape (d := d + 12) TC hN.2.1 hN.2.2.1 hJ (fun e μ1 F1 E1 a1 a2 a3 V1 => ?_) (fun e μ1 F1 E1 a1 a2 a3 a4 a5 => ?_)
  · refine brF (by decide) ?_
    refine call_go (cd := k5_size) 10 rfl rfl ?_
    show Q (μ1.1 28 0 5) 0 (0, 0) μ1
    rw [a1]
    refine h _ _ (fun Q hq => ?_)
    refine r12_nevers (d := d + 14) (tp := tp) hP.1 ((F1 41 0 21 (by unfold fCa; omega)).trans hP.2.2.1) (fun k hk => ⟨(hP.2.2.2.2 k hk).1, (F1 55 0 k (by unfold fCa; omega)).trans (hP.2.2.2.2 k hk).2.2⟩) ((F1 41 0 17 (by unfold fCa; omega)).trans hN.2.2.2.1) hJ (fun e μ2 F2 E2 b1 b2 b3 V2 => ?_) (fun z => absurd e z)
    refine hq _ (hI.nv ?_ (E2.trans E1) ⟨nv + J, fun j => if j < nv then p j else (oqN tl tp nv (j - nv)).2.2.1, fun j => if j < nv then w j else (oqN tl tp nv (j - nv)).2.2.2.1, fun j => if j < nv then q j else (oqN tl tp nv (j - nv)).2.2.2.2.1, hJ.1, ?_, ?_, b1, fun j hj => ?_⟩ ⟨0, tp, Nat.zero_le _, ?_, b2, ?_, fun k hk => absurd hk (Nat.not_lt_zero k)⟩)
    · exact fun a i k z => (F2 a i k (by unfold f_nv fT fO fS fR fN fP fX fF fL at z; unfold fCs; omega)).trans (F1 a i k (by unfold f_nv fT fO fS fR fN fP fX fF fL at z; unfold fCa; omega))
    · rw [F2 28 0 5 (by unfold fCs; omega)]; exact a1
    · rw [F2 28 0 6 (by unfold fCs; omega)]; exact a2
    · dsimp only
      by_cases c : j < nv
      · rw [if_pos c, if_pos c, if_pos c]
        have g := hN.2.2.2.2 j c
        exact ⟨g.1, g.2.1.fr (fun a x1 x2 => (F2 a 0 j (by unfold fCs; omega)).trans (F1 a 0 j (by unfold fCa; omega))), g.2.2.fr (fun k hk => (F2 54 0 k (by unfold fCs; omega)).trans (F1 54 0 k (by unfold fCa; omega)))⟩
      · rw [if_neg c, if_neg c, if_neg c]
        have ob : nvO (oqN tl tp nv (j - nv)) := rdO_ok
        have o0 := (hJ.2.1 (j - nv) (by omega)).2
        have v1 := V1 (j - nv) (by omega)
        have v2 := V2 (j - nv) (by omega)
        rw [show nv + (j - nv) = j by omega] at v1 v2
        refine ⟨?_, v1.fr (fun a x1 x2 => F2 a 0 j (by unfold fCs; omega)), v2⟩
        rcases ob with z | z
        · exact z.2
        · omega
    · rw [F2 33 0 2 (by unfold fCs; omega)]; exact a3
    · rw [b3, F2 33 0 6 (by unfold fCs; omega), F1 33 0 6 (by unfold fCa; omega), F1 41 0 22 (by unfold fCa; omega)]; exact hP.2.2.2.1
  · refine brT rfl ?_
    refine call_go (cd := k4_faultPlace) 10 rfl rfl ?_
    show Q (-1000100 - μ1.1 33 0 7) 0 (0, 0) μ1
    rw [a5]
    refine h _ _ (fun Q hq => ?_)
    refine r12_nevers (d := d + 14) (tp := tp) hP.1 ((F1 41 0 21 (by unfold fCb; omega)).trans hP.2.2.1) (fun k hk => ⟨(hP.2.2.2.2 k hk).1, (F1 55 0 k (by unfold fCb; omega)).trans (hP.2.2.2.2 k hk).2.2⟩) ((F1 41 0 17 (by unfold fCb; omega)).trans hN.2.2.2.1) hJ (fun z => absurd z e) (fun e μ2 F2 E2 b1 b2 b3 => ?_)
    refine hq _ (hI.nv ?_ (E2.trans E1) ⟨nv, p, w, q, hN.1, ?_, ?_, b1, fun j c => ?_⟩ ⟨0, tp, Nat.zero_le _, ?_, b2, ?_, fun k hk => absurd hk (Nat.not_lt_zero k)⟩)
    · exact fun a i k z => (F2 a i k (by unfold f_nv fT fO fS fR fN fP fX fF fL at z; unfold fCs; omega)).trans (F1 a i k (by unfold f_nv fT fO fS fR fN fP fX fF fL at z; unfold fCb; omega))
    · rw [F2 28 0 5 (by unfold fCs; omega)]; exact a1
    · rw [F2 28 0 6 (by unfold fCs; omega)]; exact a2
    · have g := hN.2.2.2.2 j c
      exact ⟨g.1, g.2.1.fr (fun a x1 x2 => (F2 a 0 j (by unfold fCs; omega)).trans (F1 a 0 j (by unfold fCb; omega))), g.2.2.fr (fun k hk => (F2 54 0 k (by unfold fCs; omega)).trans (F1 54 0 k (by unfold fCb; omega)))⟩
    · rw [F2 33 0 2 (by unfold fCs; omega)]; exact a3
    · rw [b3, F2 33 0 6 (by unfold fCs; omega)]; exact a4
end OP
