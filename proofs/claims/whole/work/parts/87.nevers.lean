/-! the tape is read: nevers -/
noncomputable def sqT (tl : Nat) (tp : Nat → Nat) (nv : Nat) : Nat → Nat
  | 0 => xS tl tp 0
  | j + 1 => (rdO tl tp (nv + j = 16) (sqT tl tp nv j)).2.2.2.2.2
noncomputable def oqN (tl : Nat) (tp : Nat → Nat) (nv j : Nat) : oT := rdO tl tp (nv + j = 16) (sqT tl tp nv j)
def nvO (O : oT) : Prop := O.1 = 0 ∧ nvW O.2.2.1 O.2.2.2.1 O.2.2.2.2.1 ∨ 0 < O.1 ∧ O.1 < 4
/-- the last never that is read: the tape's end, or a fault -/
def laN (tl : Nat) (tp : Nat → Nat) (nv J : Nat) : Prop := nv + J ≤ 16 ∧ (∀ j, j < J → xK tl tp (sqT tl tp nv j) ≠ 0 ∧ (oqN tl tp nv j).1 = 0) ∧ (xK tl tp (sqT tl tp nv J) = 0 ∨ (oqN tl tp nv J).1 ≠ 0)
def fCa (nv : Nat) (a _ k : Nat) : Prop := ¬ (a = 33 ∧ 2 ≤ k ∧ k ≤ 5) ∧ ¬ (a = 28 ∧ 5 ≤ k) ∧ ¬ (29 ≤ a ∧ a ≤ 32 ∧ nv ≤ k)
def fCb (nv : Nat) (a _ k : Nat) : Prop := ¬ (a = 33 ∧ 2 ≤ k ∧ k ≤ 7) ∧ ¬ (a = 28 ∧ 5 ≤ k) ∧ ¬ (29 ≤ a ∧ a ≤ 32 ∧ nv ≤ k)
def fCr (nv : Nat) (a _ k : Nat) : Prop := ¬ (a = 41 ∧ (k = 0 ∨ k = 19 ∨ k = 21 ∨ 23 ≤ k ∧ k ≤ 29)) ∧ ¬ (a = 54 ∧ 3 * nv ≤ k)
def fCs (nv : Nat) (a _ k : Nat) : Prop := ¬ (a = 41 ∧ (k = 0 ∨ k = 17 ∨ k = 19 ∨ 21 ≤ k ∧ k ≤ 29)) ∧ ¬ (a = 54 ∧ 3 * nv ≤ k)
section OP
variable {d n k c s a b r u o i m p q t tl j w l nv w0 J : Nat} {tp : Nat → Nat} {μ μ' μ'' M : sM} {Q : sQ} {x y z v : Int32} {ξ : Nat → Nat → Int32} {O : oT}
theorem iteT_c {P : Prop} {a b : oT} (G : oT → Prop) (h1 : P → G a) (h2 : ¬ P → G b) : G (iteT P a b) := by
  by_cases c : P
  · rw [iteT_t c]; exact h1 c
  · rw [iteT_f c]; exact h2 c
theorem nvO_F (h : 0 < c ∧ c < 4) : nvO (oF c s) := Or.inr h
theorem nvO_Y (h : nvW p w q) : nvO (oY p w q s) := Or.inl ⟨rfl, h⟩
theorem rdO_ok {P : Prop} : nvO (rdO tl tp P s) := by
  unfold rdO
  refine iteT_c nvO (fun h => ?_) (fun _ => nvO_F (by decide))
  refine iteT_c nvO (fun h => nvO_F (by decide)) (fun _ => ?_)
  refine iteT_c nvO (fun h => ?_) (fun _ => ?_)
  · unfold rdL
    refine iteT_c nvO (fun _ => ?_) (fun _ => nvO_F (by decide))
    refine iteT_c nvO (fun h1 => ?_) (fun _ => nvO_F (by decide))
    refine iteT_c nvO (fun _ => ?_) (fun _ => nvO_F (by decide))
    refine iteT_c nvO (fun h2 => ?_) (fun _ => nvO_F (by decide))
    refine iteT_c nvO (fun _ => ?_) (fun _ => nvO_F (by decide))
    refine nvO_Y ?_
    unfold nvW
    omega
  · unfold rdB
    refine iteT_c nvO (fun _ => nvO_F (by decide)) (fun h1 => ?_)
    have s1 := (so_k h1).2
    refine iteT_c nvO (fun _ => ?_) (fun _ => ?_)
    · unfold rdA
      refine iteT_c nvO (fun _ => ?_) (fun _ => nvO_F (by decide))
      refine iteT_c nvO (fun h2 => ?_) (fun _ => nvO_F (by decide))
      refine iteT_c nvO (fun _ => ?_) (fun _ => nvO_F (by decide))
      refine nvO_Y ?_
      unfold nvW
      omega
    · unfold rdR
      refine iteT_c nvO (fun _ => nvO_F (by decide)) (fun h2 => ?_)
      have s2 := (re_k h2).2
      refine iteT_c nvO (fun _ => nvO_F (by decide)) (fun h3 => ?_)
      have s3 := (so_k h3).2
      refine iteT_c nvO (fun _ => ?_) (fun _ => nvO_F (by decide))
      refine nvO_Y ?_
      unfold nvW
      omega
theorem rdO_full : (rdO tl tp True s).1 ≠ 0 := by
  unfold rdO
  refine iteT_c (fun O => O.1 ≠ 0) (fun h => ?_) (fun _ => (by decide : (1 : Nat) ≠ 0))
  rw [iteT_t trivial]
  exact (by decide : (3 : Nat) ≠ 0)
theorem least {P : Nat → Prop} : ∀ m, P m → ∃ J, J ≤ m ∧ P J ∧ ∀ j, j < J → ¬ P j := by
  intro m
  induction m using Nat.strongRecOn with
  | _ m ih =>
    intro h
    by_cases c : ∃ j, j < m ∧ P j
    · obtain ⟨j, hj, hp⟩ := c
      obtain ⟨J, h1, h2, h3⟩ := ih j hj hp
      exact ⟨J, by omega, h2, h3⟩
    · exact ⟨m, Nat.le_refl m, h, fun j hj hp => c ⟨j, hj, hp⟩⟩
theorem laN_ex (h : nv ≤ 16) : ∃ J, laN tl tp nv J := by
  have h1 : xK tl tp (sqT tl tp nv (16 - nv)) = 0 ∨ (oqN tl tp nv (16 - nv)).1 ≠ 0 := by
    refine Or.inr ?_
    unfold oqN
    rw [show (nv + (16 - nv) = 16) = True from eq_true (by omega)]
    exact rdO_full
  obtain ⟨J, h2, h3, h4⟩ := least (P := fun J => xK tl tp (sqT tl tp nv J) = 0 ∨ (oqN tl tp nv J).1 ≠ 0) (16 - nv) h1
  refine ⟨J, by omega, fun j hj => ⟨fun z => h4 j hj (Or.inl z), ?_⟩, h3⟩
  exact Classical.byContradiction (fun z => h4 j hj (Or.inr z))
theorem c5_settle (h : Q 0 0 (0, 0) (m_i (m_i μ 28 0 5 (μ.1 28 0 5 + (if x = 0 then 0 else μ.1 28 0 6))) 28 0 6 0)) : Call (d + 1) n5_settle [sR 28 0, sI x] μ Q := by
  refine call_go (cd := k5_settle) 30 rfl rfl ?_
  by_cases c : x = 0
  · rw [if_pos c] at h
    refine brT c ?_
    exact h
  · rw [if_neg c] at h
    refine brF c ?_
    exact h
theorem nvC.fr (h : nvC μ j p w q) (e : ∀ a, 29 ≤ a → a ≤ 32 → μ'.1 a 0 j = μ.1 a 0 j) : nvC μ' j p w q := by
  unfold nvC
  rw [e 29 (by decide) (by decide), e 30 (by decide) (by decide), e 31 (by decide) (by decide), e 32 (by decide) (by decide)]
  exact h
theorem nvR.fr (h : nvR μ j p w q) (e : ∀ k, k < 3 * j + 3 → μ'.1 54 0 k = μ.1 54 0 k) : nvR μ' j p w q := by
  unfold nvR
  rw [e _ (by omega), e _ (by omega), e _ (by omega)]
  exact h
def nvsC (μ : sM) (tl : Nat) (tp : Nat → Nat) (nv i : Nat) : Prop := ∀ j, j < i → nvC μ (nv + j) (oqN tl tp nv j).2.2.1 (oqN tl tp nv j).2.2.2.1 (oqN tl tp nv j).2.2.2.2.1
def nvsR (μ : sM) (tl : Nat) (tp : Nat → Nat) (nv i : Nat) : Prop := ∀ j, j < i → nvR μ (nv + j) (oqN tl tp nv j).2.2.1 (oqN tl tp nv j).2.2.2.1 (oqN tl tp nv j).2.2.2.2.1
theorem c4_readTape (hT : tpC μ tl tp) (hnv : μ.1 28 0 5 = nI nv) (hw : μ.1 28 0 6 = 0) (hJ : laN tl tp nv J)
    (h1 : xK tl tp (sqT tl tp nv J) = 0 → ∀ μ', frm (fCa nv) μ μ' → μ'.2 = μ.2 → μ'.1 28 0 5 = nI (nv + J) → μ'.1 28 0 6 = 0 → μ'.1 33 0 2 = 0 → nvsC μ' tl tp nv J → Q 1 0 (0, 0) μ')
    (h2 : xK tl tp (sqT tl tp nv J) ≠ 0 → ∀ μ', frm (fCb nv) μ μ' → μ'.2 = μ.2 → μ'.1 28 0 5 = nI nv → μ'.1 28 0 6 = 0 → μ'.1 33 0 2 = 0 → μ'.1 33 0 6 = nI (oqN tl tp nv J).1 → μ'.1 33 0 7 = nI (oqN tl tp nv J).2.1 → Q 0 0 (0, 0) μ') : Call (d + 7) n4_readTape [sR 33 0] μ Q := by
  have T0 : tpC (m_i μ 33 0 5 0) tl tp := hT.fr (frm.rf.mi (by unfold fTk; omega))
  refine call_go (cd := k4_readTape) 9 rfl rfl ?_
  refine c4_advance (p := 0) T0 (Nat.zero_le _) mi_s (fun μ1 F1 E1 K1 => ?_)
  have F1' : frm fTk μ μ1 := (frm.rf.mi (by unfold fTk; omega)).tr F1
  have T1 := hT.fr F1'
  refine loopC (cd := k4_readTape) (d := d + 6) (Q := Q) J (fun i ls μ' => ls = [some (sR 33 0), some (sI 1), some (sI (nI i))] ∧ tpC μ' tl tp ∧ tkC μ' tl tp (sqT tl tp nv i) ∧ μ'.1 28 0 5 = nI nv ∧ μ'.1 28 0 6 = nI i ∧ frm (fCa nv) μ μ' ∧ μ'.2 = μ.2 ∧ nvsC μ' tl tp nv i) 13 0 _ _ (Nat.zero_le _) ⟨rfl, T1, K1, (F1' 28 0 5 (by unfold fTk; omega)).trans hnv, (F1' 28 0 6 (by unfold fTk; omega)).trans hw, F1'.sub (fun a i k z => by unfold fCa at z; unfold fTk; omega), E1, fun j hj => absurd hj (Nat.not_lt_zero j)⟩ ?_
  rintro i ls μ2 hi ⟨rfl, T2, K2, n2, w2, F2, E2, V2⟩ kk
  have J16 := hJ.1
  refine run_go 3 ?_
  refine brF (by simp (disch := first | omega | (simp (disch := omega) only [nI_toInt, Int32.reduceToInt, i_sub, i_add, i_mul]; omega)) only [iNONE, i_lt, i_le, i_eq, i_in, nI_toInt, Int32.reduceToInt, i_sub, i_add, i_mul]; omega) ?_
  refine run_go 2 ?_
  refine brF (by decide) ?_
  refine run_go 3 ?_
  have ok : xK tl tp (sqT tl tp nv i) ≠ 0 → Run k4_readTape (Call (d + 6)) Q 31 [some (sR 33 0), some (sI 1), some (sI (nI i))] [] μ2 := by
    intro kn
    refine run_go 5 ?_
    refine c4_readNever (w0 := i) (nv := nv) T2 K2 n2 w2 (by omega) (fun o1 μ3 F3 E3 K3 w3 V3 => ?_) (fun o1 μ3 F3 E3 c3 p3 => ?_)
    · have iJ : i < J := by
        refine Classical.byContradiction (fun z => ?_)
        have : i = J := by omega
        subst this
        rcases hJ.2.2 with q | q
        · exact kn q
        · exact q o1
      refine kk _ _ iJ ⟨by rw [nI_1], ⟨T2.1, ?_, fun k hk => ⟨(T2.2.2 k hk).1, ?_⟩⟩, K3, ?_, w3, F2.tr (F3.sub (fun a i k z => by unfold fCa at z; unfold fRd; omega)), E3.trans E2, fun j hj => ?_⟩
      · rw [F3 33 0 2 (by unfold fRd; omega)]; exact T2.2.1
      · rw [F3 34 0 k (by unfold fRd; omega)]; exact (T2.2.2 k hk).2
      · rw [F3 28 0 5 (by unfold fRd; omega)]; exact n2
      · by_cases e : j = i
        · subst e; exact V3
        · exact (V2 j (by omega)).fr (fun a a1 a2 => F3 a 0 _ (by unfold fRd; omega))
    · have iJ : i = J := by
        refine Classical.byContradiction (fun z => ?_)
        exact o1 (hJ.2.1 i (by omega)).2
      subst iJ
      show Run k4_readTape (Call (d + 6)) Q 13 [some (sR 33 0), some (sI 0), some (sI (nI i + 1))] [] μ3
      rw [nI_1]
      refine run_go 3 ?_
      refine brF (by simp (disch := first | omega | (simp (disch := omega) only [nI_toInt, Int32.reduceToInt, i_sub, i_add, i_mul]; omega)) only [iNONE, i_lt, i_le, i_eq, i_in, nI_toInt, Int32.reduceToInt, i_sub, i_add, i_mul]; omega) ?_
      refine run_go 2 ?_
      refine brT rfl ?_
      refine run_go 9 ?_
      refine c5_settle ?_
      rw [if_pos rfl, Int32.add_zero]
      refine ⟨Or.inl rfl, ?_⟩
      refine h2 kn _ ?_ (E3.trans E2) ?_ ?_ ?_ ?_ ?_
      · refine (((?_ : frm (fCb nv) μ μ3).mi (by unfold fCb; omega)).mi (by unfold fCb; omega)).mi (by unfold fCb; omega)
        exact (F2.sub (fun a i k z => by unfold fCb at z; unfold fCa; omega)).tr (F3.sub (fun a i k z => by unfold fCb at z; unfold fRx; omega))
      · rw [mi_t (by decide), mi_k (by decide), mi_s, F3 28 0 5 (by unfold fRx; omega)]; exact n2
      · rw [mi_t (by decide), mi_s]
      · exact mi_s
      · rw [mi_k (by decide), mi_t (by decide), mi_t (by decide)]; exact c3
      · rw [mi_k (by decide), mi_t (by decide), mi_t (by decide)]; exact p3
  by_cases e : xK tl tp (sqT tl tp nv i) = 0
  · have iJ : i = J := by
      refine Classical.byContradiction (fun z => ?_)
      exact (hJ.2.1 i (by omega)).1 e
    subst iJ
    refine brT (by rw [K2.2.1, e]; rfl) ?_
    refine run_go 9 ?_
    refine c5_settle ?_
    rw [if_neg (by decide), n2, w2, nI_add]
    refine ⟨Or.inr rfl, ?_⟩
    refine h1 e _ (((F2.mi (by unfold fCa; omega)).mi (by unfold fCa; omega)).mi (by unfold fCa; omega)) E2 ?_ ?_ mi_s (fun j hj => ?_)
    · rw [mi_t (by decide), mi_k (by decide), mi_s]
    · rw [mi_t (by decide), mi_s]
    · exact (V2 j hj).fr (fun a a1 a2 => by rw [mi_t (by omega), mi_t (by omega), mi_t (by omega)])
  · refine brF (by
      rw [K2.2.1]
      have := xK_le (tl := tl) (tp := tp) (s := sqT tl tp nv i)
      exact (by simp (disch := first | omega | (simp (disch := omega) only [nI_toInt, Int32.reduceToInt, i_sub, i_add, i_mul]; omega)) only [iNONE, i_lt, i_le, i_eq, i_in, nI_toInt, Int32.reduceToInt, i_sub, i_add, i_mul]; omega)) ?_
    exact ok e
end OP
