/-! one never is read: the reference -/
def fRr (c : Nat) (a _ k : Nat) : Prop := ¬ (a = 41 ∧ (k = 19 ∨ 24 ≤ k ∧ k ≤ 29)) ∧ ¬ (a = 54 ∧ 3 * c ≤ k)
def okR (μ : sM) (tl : Nat) (tp : Nat → Nat) (c : Nat) (O : oT) (Q : sQ) : Prop := O.1 = 0 → ∀ μ', frm (fRr c) μ μ' → μ'.2 = μ.2 → tkR μ' tl tp O.2.2.2.2.2 → μ'.1 41 0 28 = 0 → μ'.1 41 0 19 = nI (c + 1) → nvR μ' c O.2.2.1 O.2.2.2.1 O.2.2.2.2.1 → Q 0 0 (0, 0) μ'
def noR (μ : sM) (c : Nat) (O : oT) (Q : sQ) : Prop := ¬ O.1 = 0 → ∀ μ', frm (fRr c) μ μ' → μ'.2 = μ.2 → μ'.1 41 0 28 = nI O.1 → μ'.1 41 0 29 = nI O.2.1 → Q 0 0 (0, 0) μ'
section OP
variable {d n k c s a b r u o i m p q t tl j w l : Nat} {tp : Nat → Nat} {μ μ' μ'' M : sM} {Q : sQ} {x y z v : Int32} {ξ : Nat → Nat → Int32} {O : oT}
theorem fRr_tr (F : frm fTr μ μ') : frm (fRr c) μ μ' := F.sub (fun a i k z => by unfold fRr at z; unfold fTr; omega)
/-- the last sign, when there was no fault -/
theorem r12_nvEnd {ls : sO} (hT : tpR μ tl tp) (hk : tkR μ tl tp s) (hf : μ.1 41 0 28 = 0) (hc : μ.1 41 0 19 = nI c) (hV : nvR μ c p w q) (hF : frm (fRr c) M μ) (hE : μ.2 = M.2) (h1 : okR M tl tp c (iteT (xK tl tp s = 3) (oY p w q (nxT' tl tp s)) (oF 1 s)) Q) (h2 : noR M c (iteT (xK tl tp s = 3) (oY p w q (nxT' tl tp s)) (oF 1 s)) Q) : Run k12_readNever (Call (d + 4)) Q 261 ([some (sR 41 0)] ++ ls) [] μ := by
  have rk := rk_ok _ (xK_le (tl := tl) (tp := tp) (s := s))
  refine run_sub (ls := [some (sR 41 0)]) ?_ (subL.app _ ls)
  refine run_go 40 ?_
  refine brnT hf ?_
  by_cases e : xK tl tp s = 3
  · rw [iteT_t e] at h1
    refine brnT (by rw [hk.2.1, rk.2.2.2.1.mpr e]; rfl) ?_
    refine r12_mustY hT hk hf (by omega) (fun μ1 F1 E1 K1 => ?_)
    have c1 : μ1.1 41 0 19 = nI c := (F1 41 0 19 (by unfold fTr; omega)).trans hc
    show Q 0 0 (0, 0) (m_i μ1 41 0 19 (μ1.1 41 0 19 + 1))
    rw [c1, nI_1]
    refine h1 rfl _ ((hF.tr (fRr_tr F1)).mi (by unfold fRr; omega)) (E1.trans hE) ?_ ?_ mi_s ?_
    · exact K1
    · rw [mi_k (by decide)]; exact (F1 41 0 28 (by unfold fTr; omega)).trans hf
    · refine ⟨?_, ?_, ?_⟩
      · rw [mi_t (by decide), F1 54 0 _ (by unfold fTr; omega)]; exact hV.1
      · rw [mi_t (by decide), F1 54 0 _ (by unfold fTr; omega)]; exact hV.2.1
      · rw [mi_t (by decide), F1 54 0 _ (by unfold fTr; omega)]; exact hV.2.2
  · rw [iteT_f e] at h2
    refine brnF (by
      rw [hk.2.1]
      intro z
      exact e (rk.2.2.2.1.mp ((nI_eq (a := rkW (xK tl tp s)) (b := 4) (by omega) (by omega)).mp z))) ?_
    refine r12_mustN hk hf ?_
    have c1 : (bdM μ 1 s).1 41 0 19 = nI c := by unfold bdM; rw [mi_k (by decide), mi_k (by decide)]; exact hc
    show Q 0 0 (0, 0) (m_i (bdM μ 1 s) 41 0 19 ((bdM μ 1 s).1 41 0 19 + 1))
    rw [c1, nI_1]
    unfold bdM
    refine h2 (Nat.succ_ne_zero 0) _ (((hF.mi (by unfold fRr; omega)).mi (by unfold fRr; omega)).mi (by unfold fRr; omega)) hE ?_ ?_
    · rw [mi_k (by decide), mi_k (by decide), mi_s]; rfl
    · rw [mi_k (by decide), mi_s]; rfl
/-- the end, after a fault -/
theorem r12_nvBad {ls : sO} {s1 e : Nat} (he : 0 < e ∧ e < 4) (hf : μ.1 41 0 28 = nI e) (hp : μ.1 41 0 29 = nI s1) (hF : frm (fRr c) M μ) (hE : μ.2 = M.2) (h2 : noR M c (oF e s1) Q) : Run k12_readNever (Call (d + 4)) Q 261 ([some (sR 41 0)] ++ ls) [] μ := by
  refine run_sub (ls := [some (sR 41 0)]) ?_ (subL.app _ ls)
  refine run_go 40 ?_
  refine brnF (by rw [hf]; exact (by simp (disch := first | omega | (simp (disch := omega) only [nI_toInt, Int32.reduceToInt, i_sub, i_add, i_mul]; omega)) only [iNONE, i_lt, i_le, i_eq, i_in, nI_toInt, Int32.reduceToInt, i_sub, i_add, i_mul]; omega)) ?_
  show Q 0 0 (0, 0) (m_i μ 41 0 19 (μ.1 41 0 19 + 1))
  refine h2 (show ¬ e = 0 by omega) _ (hF.mi (by unfold fRr; omega)) hE ?_ ?_
  · rw [mi_k (by decide)]; exact hf
  · rw [mi_k (by decide)]; exact hp
theorem bd_f : (bdM μ x s).1 41 0 28 = x ∧ (bdM μ x s).1 41 0 29 = nI s := by
  unfold bdM
  exact ⟨(mi_k (by decide)).trans mi_s, mi_s⟩
theorem bd_F (F : frm (fRr c) M μ) : frm (fRr c) M (bdM μ x s) := by
  unfold bdM
  exact (F.mi (by unfold fRr; omega)).mi (by unfold fRr; omega)
theorem in54 (hc : c < 16) : vp_in (3 * nI c) 48 ∧ vp_in (3 * nI c + 1) 48 ∧ vp_in (3 * nI c + 2) 48 ∧ (3 * nI c).toNatClampNeg = 3 * c ∧ (3 * nI c + 1).toNatClampNeg = 3 * c + 1 ∧ (3 * nI c + 2).toNatClampNeg = 3 * c + 2 := by
  rw [nI_31, nI_32, nI_3, nI_clamp (by omega), nI_clamp (by omega), nI_clamp (by omega)]
  exact ⟨vp_in_nI (by omega) (by decide), vp_in_nI (by omega) (by decide), vp_in_nI (by omega) (by decide), rfl, rfl, rfl⟩
theorem tpR_54 (h : tpR μ tl tp) : tpR (m_i μ 54 0 k x) tl tp := ⟨h.1, h.2.1, h.2.2⟩
theorem tkR_54 (h : tkR μ tl tp s) : tkR (m_i μ 54 0 k x) tl tp s := ⟨h.1, h.2.1, h.2.2.1, h.2.2.2⟩
theorem w9k : (108187867505765 : Int64) = Int64.ofNat (wKn 9) := by decide
theorem wx (h : wdP tl tp s 6) : ¬ wdP tl tp s 7 ∧ ¬ wdP tl tp s 8 ∧ ¬ wdP tl tp s 9 := by
  have h1 : tp (s + 0) = 97 := h.2.2 0 (by decide)
  refine ⟨fun z => ?_, fun z => ?_, fun z => ?_⟩
  · have h2 : tp (s + 0) = 111 := z.2.2 0 (by decide)
    omega
  · have h2 : tp (s + 0) = 105 := z.2.2 0 (by decide)
    omega
  · have h2 : tp (s + 0) = 98 := z.2.2 0 (by decide)
    omega
/-- the third number, after a fault -/
theorem r12_nv3 {r : sO} {g : Int64} {s1 e : Nat} (hc : c < 16) (he : 0 < e ∧ e < 4) (hf : μ.1 41 0 28 = nI e) (hp : μ.1 41 0 29 = nI s1) (hF : frm (fRr c) M μ) (hE : μ.2 = M.2) (h2 : noR M c (oF e s1) Q) : Run k12_readNever (Call (d + 4)) Q 226 ([some (sR 41 0), some (sL g), none, some (sI 1), some (sI (3 * nI c))] ++ r) [] μ := by
  have N := in54 hc
  have fp : 0 < μ.1 41 0 28 := by rw [hf]; exact (by simp (disch := first | omega | (simp (disch := omega) only [nI_toInt, Int32.reduceToInt, i_sub, i_add, i_mul]; omega)) only [iNONE, i_lt, i_le, i_eq, i_in, nI_toInt, Int32.reduceToInt, i_sub, i_add, i_mul]; omega)
  refine run_sub (ls := [some (sR 41 0), some (sL g), none, some (sI 1), some (sI (3 * nI c))]) ?_ (subL.app _ r)
  have fin : Run k12_readNever (Call (d + 4)) Q 260 [some (sR 41 0), some (sL g), none, some (sI 1), some (sI (3 * nI c))] [sI 0, sI (3 * nI c + 2), sR 54 0] μ := by
    refine run_go 1 ?_
    refine And.intro N.2.2.1 ?_
    rw [N.2.2.2.2.2]
    exact r12_nvBad (ls := [some (sL g), none, some (sI 1), some (sI (3 * nI c))]) he ((mi_t (by decide)).trans hf) ((mi_t (by decide)).trans hp) (hF.mi (by unfold fRr; omega)) hE h2
  refine run_go 13 ?_
  refine And.intro N.2.1 ?_
  refine And.intro (fun _ => ?_) (fun _ => ?_)
  · refine run_go 2 ?_
    refine r12_sortF fp ?_
    exact fin
  · refine run_go 4 ?_
    refine r12_numberF fp ?_
    exact fin
theorem r12_rel {s2 A : Nat} {gw gs : Int64} {M2 : sM} (c16 : c < 16) (T2 : tpR M2 tl tp) (K2' : tkR M2 tl tp s2) (f2 : M2.1 41 0 28 = 0) (n2 : M2.1 41 0 19 = nI c) (G2 : frm (fRr c) μ M2) (v0 : M2.1 54 0 (3 * c) = nI A) (E2' : M2.2 = μ.2) (h1 : okR μ tl tp c (iteT (wdP tl tp s2 6) (rdA tl tp A (nxT' tl tp s2)) (rdR tl tp A s2)) Q) (h2 : noR μ c (iteT (wdP tl tp s2 6) (rdA tl tp A (nxT' tl tp s2)) (rdR tl tp A s2)) Q) (v : Int32) (hv : wdP tl tp s2 6 ∧ v = 3 ∨ ¬ wdP tl tp s2 6 ∧ (reV tl tp s2 = 9 ∧ v = nONE ∨ reV tl tp s2 ≠ 9 ∧ v = nI (reV tl tp s2))) : Run k12_readNever (Call (d + 4)) Q 202 [some (sR 41 0), some (sL gs), none, some (sI (nI 1)), some (sI (3 * nI c)), some (sL gw), none] [sI v, sI (3 * nI c + 1), sR 54 0] M2 := by
  have N := in54 c16
  refine run_go 10 ?_
  refine And.intro N.2.1 ?_
  rw [N.2.2.2.2.1]
  refine And.intro N.2.1 ?_
  rw [N.2.2.2.2.1, mi_s]
  have T3 : tpR (m_i M2 54 0 (3 * c + 1) v) tl tp := tpR_54 T2
  have K3 : tkR (m_i M2 54 0 (3 * c + 1) v) tl tp s2 := tkR_54 K2'
  have f3 : (m_i M2 54 0 (3 * c + 1) v).1 41 0 28 = 0 := f2
  have n3 : (m_i M2 54 0 (3 * c + 1) v).1 41 0 19 = nI c := n2
  have G3 : frm (fRr c) μ (m_i M2 54 0 (3 * c + 1) v) := G2.mi (by unfold fRr; omega)
  have u0 : (m_i M2 54 0 (3 * c + 1) v).1 54 0 (3 * c) = nI A := (mi_k (by omega)).trans v0
  have u1 : (m_i M2 54 0 (3 * c + 1) v).1 54 0 (3 * c + 1) = v := mi_s
  have E3' : (m_i M2 54 0 (3 * c + 1) v).2 = μ.2 := E2'
  generalize m_i M2 54 0 (3 * c + 1) v = M3 at T3 K3 f3 n3 G3 u0 u1 E3' ⊢
  rcases hv with ⟨h6, rfl⟩ | ⟨h6, ⟨h9, rfl⟩ | ⟨h9, rfl⟩⟩
  · rw [iteT_t h6] at h1 h2
    unfold rdA at h1 h2
    refine brF (by decide) ?_
    refine run_go 3 ?_
    refine r12_mustY T3 K3 f3 (wd_k h6) (fun μ4 F4 E4 K4 => ?_)
    have T4 := T3.fr F4
    have f4 : μ4.1 41 0 28 = 0 := (F4 41 0 28 (by unfold fTr; omega)).trans f3
    have G4 := G3.tr (fRr_tr (c := c) F4)
    have a0 : μ4.1 54 0 (3 * c) = nI A := (F4 54 0 _ (by unfold fTr; omega)).trans u0
    have a1 : μ4.1 54 0 (3 * c + 1) = 3 := (F4 54 0 _ (by unfold fTr; omega)).trans u1
    refine run_go 13 ?_
    refine And.intro N.2.1 ?_
    rw [N.2.2.2.2.1, a1]
    refine brnT rfl ?_
    refine run_go 5 ?_
    refine r12_numberTo (m := 7) rfl (by decide) T4 K4 f4 (fun e5 e6 μ5 F5 E5 K5 => ?_) (fun e5 e6 v => ?_) (fun e5 v => ?_)
    · rw [iteT_t e5, iteT_t e6] at h1 h2
      refine And.intro N.2.2.1 ?_
      rw [N.2.2.2.2.2]
      refine r12_nvEnd (ls := [some (sL (gs)), none, some (sI (nI 1)), some (sI (3 * nI c)), some (sL gw), none]) (tpR_54 (T4.fr F5)) (tkR_54 K5) ((F5 41 0 28 (by unfold fTr; omega)).trans f4) ((F5 41 0 19 (by unfold fTr; omega)).trans ((F4 41 0 19 (by unfold fTr; omega)).trans n3)) ⟨?_, ?_, mi_s⟩ ((G4.tr (fRr_tr F5)).mi (by unfold fRr; omega)) (E5.trans (E4.trans E3')) h1 h2
      · rw [mi_k (by omega), F5 54 0 _ (by unfold fTr; omega)]; exact a0
      · rw [mi_k (by omega), F5 54 0 _ (by unfold fTr; omega)]; exact a1
    · rw [iteT_t e5, iteT_f (by omega)] at h2
      refine And.intro N.2.2.1 ?_
      rw [N.2.2.2.2.2]
      exact r12_nvBad (ls := [some (sL (gs)), none, some (sI (nI 1)), some (sI (3 * nI c)), some (sL gw), none]) (e := 2) (by decide) ((mi_t (by decide)).trans bd_f.1) ((mi_t (by decide)).trans bd_f.2) ((bd_F G4).mi (by unfold fRr; omega)) (E4.trans E3') h2
    · rw [iteT_f e5] at h2
      refine And.intro N.2.2.1 ?_
      rw [N.2.2.2.2.2]
      exact r12_nvBad (ls := [some (sL (gs)), none, some (sI (nI 1)), some (sI (3 * nI c)), some (sL gw), none]) (e := 1) (by decide) ((mi_t (by decide)).trans bd_f.1) ((mi_t (by decide)).trans bd_f.2) ((bd_F G4).mi (by unfold fRr; omega)) (E4.trans E3') h2
  · rw [iteT_f h6] at h1 h2
    unfold rdR at h1 h2
    rw [iteT_t h9] at h2
    refine brT rfl ?_
    refine run_go 2 ?_
    refine r12_mustN K3 f3 ?_
    exact r12_nv3 (r := [some (sL gw), none]) (e := 1) c16 (by decide) bd_f.1 bd_f.2 (bd_F G3) E3' h2
  · rw [iteT_f h6] at h1 h2
    unfold rdR at h1 h2
    rw [iteT_f h9] at h1 h2
    have r3 := (re_k h9).2
    refine brF (nNO (by omega)) ?_
    refine run_go 3 ?_
    refine r12_mustY T3 K3 f3 (re_k h9).1 (fun μ4 F4 E4 K4 => ?_)
    have T4 := T3.fr F4
    have f4 : μ4.1 41 0 28 = 0 := (F4 41 0 28 (by unfold fTr; omega)).trans f3
    have G4 := G3.tr (fRr_tr (c := c) F4)
    have a0 : μ4.1 54 0 (3 * c) = nI A := (F4 54 0 _ (by unfold fTr; omega)).trans u0
    have a1 : μ4.1 54 0 (3 * c + 1) = nI (reV tl tp s2) := (F4 54 0 _ (by unfold fTr; omega)).trans u1
    refine run_go 13 ?_
    refine And.intro N.2.1 ?_
    rw [N.2.2.2.2.1, a1]
    refine brnF (by exact (by simp (disch := first | omega | (simp (disch := omega) only [nI_toInt, Int32.reduceToInt, i_sub, i_add, i_mul]; omega)) only [iNONE, i_lt, i_le, i_eq, i_in, nI_toInt, Int32.reduceToInt, i_sub, i_add, i_mul]; omega)) ?_
    refine run_go 3 ?_
    refine r12_sortHere T4 K4 f4 (fun e5 μ5 F5 E5 K5 => ?_) (fun e5 => ?_)
    · rw [iteT_f e5] at h1 h2
      refine And.intro N.2.2.1 ?_
      rw [N.2.2.2.2.2]
      refine r12_nvEnd (ls := [some (sL (gs)), none, some (sI (nI 1)), some (sI (3 * nI c)), some (sL gw), none]) (tpR_54 (T4.fr F5)) (tkR_54 K5) ((F5 41 0 28 (by unfold fTr; omega)).trans f4) ((F5 41 0 19 (by unfold fTr; omega)).trans ((F4 41 0 19 (by unfold fTr; omega)).trans n3)) ⟨?_, ?_, mi_s⟩ ((G4.tr (fRr_tr F5)).mi (by unfold fRr; omega)) (E5.trans (E4.trans E3')) h1 h2
      · rw [mi_k (by omega), F5 54 0 _ (by unfold fTr; omega)]; exact a0
      · rw [mi_k (by omega), F5 54 0 _ (by unfold fTr; omega)]; exact a1
    · rw [iteT_t e5] at h2
      refine And.intro N.2.2.1 ?_
      rw [N.2.2.2.2.2]
      exact r12_nvBad (ls := [some (sL (gs)), none, some (sI (nI 1)), some (sI (3 * nI c)), some (sL gw), none]) (e := 1) (by decide) ((mi_t (by decide)).trans bd_f.1) ((mi_t (by decide)).trans bd_f.2) ((bd_F G4).mi (by unfold fRr; omega)) (E4.trans E3') h2
theorem r12_rnB1 {μ1 μ2 : sM} {gs : Int64} (c16 : c < 16) (T1 : tpR μ1 tl tp) (f1 : μ1.1 41 0 28 = 0) (n1 : μ1.1 41 0 19 = nI c) (G1 : frm (fRr c) μ μ1) (E1 : μ1.2 = μ.2) (F2 : frm fTr μ1 μ2) (E2 : μ2.2 = μ1.2) (K2 : tkR μ2 tl tp (nxT' tl tp s)) (e3 : soV tl tp s ≠ 9) (h1 : okR μ tl tp c (rdB tl tp s) Q) (h2 : noR μ c (rdB tl tp s) Q) : Run k12_readNever (Call (d + 4)) Q 126 [some (sR 41 0), some (sL gs), none, some (sI (nI 1)), some (sI (3 * nI c))] [sI (nI (soV tl tp s)), sI (3 * nI c), sR 54 0] μ2 := by
  unfold rdB at h1 h2
  have hb : ∀ k, k < tl → tp k < 256 := fun k hk => (T1.2.2 k hk).1
  have W := fun s w (hw : w < 10) P hP => wc (tl := tl) (tp := tp) (s := s) hb hw P hP
  have N := in54 c16
  refine run_go 4 ?_
  rw [iteT_f e3] at h1 h2
  have s4 := (so_k e3).2
  refine And.intro N.1 ?_
  rw [N.2.2.2.1]
  have T2 : tpR (m_i μ2 54 0 (3 * c) (nI (soV tl tp s))) tl tp := tpR_54 (T1.fr F2)
  have K2' : tkR (m_i μ2 54 0 (3 * c) (nI (soV tl tp s))) tl tp (nxT' tl tp s) := tkR_54 K2
  have f2 : (m_i μ2 54 0 (3 * c) (nI (soV tl tp s))).1 41 0 28 = 0 := (F2 41 0 28 (by unfold fTr; omega)).trans f1
  have n2 : (m_i μ2 54 0 (3 * c) (nI (soV tl tp s))).1 41 0 19 = nI c := (F2 41 0 19 (by unfold fTr; omega)).trans n1
  have G2 : frm (fRr c) μ (m_i μ2 54 0 (3 * c) (nI (soV tl tp s))) := (G1.tr (fRr_tr F2)).mi (by unfold fRr; omega)
  have v0 : (m_i μ2 54 0 (3 * c) (nI (soV tl tp s))).1 54 0 (3 * c) = nI (soV tl tp s) := mi_s
  have E2' : (m_i μ2 54 0 (3 * c) (nI (soV tl tp s))).2 = μ.2 := E2.trans E1
  generalize m_i μ2 54 0 (3 * c) (nI (soV tl tp s)) = M2 at T2 K2' f2 n2 G2 v0 E2' ⊢
  refine brnT f2 ?_
  generalize hs2 : nxT' tl tp s = s2 at h1 h2 K2'
  generalize soV tl tp s = A at h1 h2 s4 v0
  refine run_go 12 ?_
  refine r12_word T2 K2' ?_
  have W2 := fun w hw P hP => W s2 w hw P hP
  generalize Int64.ofNat (wdV tl tp s2) = gw at W2 ⊢
  -- behind the relation's word
  have rel := fun v hv => r12_rel (d := d) (gw := gw) (gs := gs) c16 T2 K2' f2 n2 G2 v0 E2' h1 h2 v hv
  by_cases r7 : wdP tl tp s2 7
  · refine brnT ((W2 7 (by decide) _ (by decide)).mpr r7) ?_
    refine run_go 2 ?_
    exact rel 0 (Or.inr ⟨fun z => (wx z).1 r7, Or.inr (by unfold reV; rw [iteC_t r7]; exact ⟨by decide, rfl⟩)⟩)
  · refine brnF (fun z => r7 ((W2 7 (by decide) _ (by decide)).mp z)) ?_
    refine run_go 4 ?_
    by_cases r8 : wdP tl tp s2 8
    · refine brnT ((W2 8 (by decide) _ (by decide)).mpr r8) ?_
      refine run_go 2 ?_
      exact rel 1 (Or.inr ⟨fun z => (wx z).2.1 r8, Or.inr (by unfold reV; rw [iteC_f r7, iteC_t r8]; exact ⟨by decide, rfl⟩)⟩)
    · refine brnF (fun z => r8 ((W2 8 (by decide) _ (by decide)).mp z)) ?_
      refine run_go 4 ?_
      by_cases r9 : wdP tl tp s2 9
      · refine brnT ((W2 9 (by decide) _ w9k).mpr r9) ?_
        refine run_go 2 ?_
        exact rel 2 (Or.inr ⟨fun z => (wx z).2.2 r9, Or.inr (by unfold reV; rw [iteC_f r7, iteC_f r8, iteC_t r9]; exact ⟨by decide, rfl⟩)⟩)
      · refine brnF (fun z => r9 ((W2 9 (by decide) _ w9k).mp z)) ?_
        refine run_go 4 ?_
        have re9 : reV tl tp s2 = 9 := by unfold reV; rw [iteC_f r7, iteC_f r8, iteC_f r9]
        by_cases r6 : wdP tl tp s2 6
        · refine brnT ((W2 6 (by decide) _ (by decide)).mpr r6) ?_
          refine run_go 2 ?_
          exact rel 3 (Or.inl ⟨r6, rfl⟩)
        · refine brnF (fun z => r6 ((W2 6 (by decide) _ (by decide)).mp z)) ?_
          refine run_go 1 ?_
          exact rel nONE (Or.inr ⟨r6, Or.inl ⟨re9, rfl⟩⟩)
theorem r12_rnB0 {μ1 : sM} {gs : Int64} (c16 : c < 16) (G1 : frm (fRr c) μ μ1) (E1 : μ1.2 = μ.2) (hf : μ1.1 41 0 28 = nI 1) (hp : μ1.1 41 0 29 = nI s) (h2 : noR μ c (oF 1 s) Q) : Run k12_readNever (Call (d + 4)) Q 126 [some (sR 41 0), some (sL gs), none, some (sI (nI 1)), some (sI (3 * nI c))] [sI v, sI (3 * nI c), sR 54 0] μ1 := by
  have N := in54 c16
  refine run_go 4 ?_
  refine And.intro N.1 ?_
  rw [N.2.2.2.1]
  refine brnF (by rw [mi_t (by decide), hf]; decide) ?_
  exact r12_nv3 (r := []) (e := 1) c16 (by decide) ((mi_t (by decide)).trans hf) ((mi_t (by decide)).trans hp) (G1.mi (by unfold fRr; omega)) E1 h2
theorem r12_rnB {μ1 : sM} {gs : Int64} (c16 : c < 16) (T1 : tpR μ1 tl tp) (K1 : tkR μ1 tl tp s) (f1 : μ1.1 41 0 28 = 0) (n1 : μ1.1 41 0 19 = nI c) (G1 : frm (fRr c) μ μ1) (E1 : μ1.2 = μ.2) (h1 : okR μ tl tp c (rdB tl tp s) Q) (h2 : noR μ c (rdB tl tp s) Q) : Run k12_readNever (Call (d + 4)) Q 116 [some (sR 41 0), some (sL gs), none, some (sI (nI 1)), some (sI (3 * nI c))] [] μ1 := by
  refine run_go 5 ?_
  refine r12_sortHere T1 K1 f1 (fun e3 μ2 F2 E2 K2 => ?_) (fun e3 => ?_)
  · exact r12_rnB1 c16 T1 f1 n1 G1 E1 F2 E2 K2 e3 h1 h2
  · unfold rdB at h2
    rw [iteT_t e3] at h2
    exact r12_rnB0 (v := nONE) c16 (bd_F G1) E1 bd_f.1 bd_f.2 h2
theorem r12_readNever (hT : tpR μ tl tp) (hk : tkR μ tl tp s) (hf : μ.1 41 0 28 = 0) (hcn : μ.1 41 0 19 = nI c) (hc : c ≤ 16) (h1 : okR μ tl tp c (rdO tl tp (c = 16) s) Q) (h2 : noR μ c (rdO tl tp (c = 16) s) Q) : Call (d + 5) n12_readNever [sR 41 0] μ Q := by
  unfold rdO at h1 h2
  have hb : ∀ k, k < tl → tp k < 256 := fun k hk => (hT.2.2 k hk).1
  have W := fun s w (hw : w < 10) P hP => wc (tl := tl) (tp := tp) (s := s) hb hw P hP
  -- behind the word
  have go : ∀ e : Nat, e < 2 → (e = 1 ↔ wdP tl tp s 0 ∨ wdP tl tp s 1) → Run k12_readNever (Call (d + 4)) Q 26 [some (sR 41 0), some (sL (Int64.ofNat (wdV tl tp s))), none] [sI (nI e)] μ := by
    intro e he2 he
    by_cases hw : wdP tl tp s 0 ∨ wdP tl tp s 1
    · have e1 : e = 1 := he.mpr hw
      subst e1
      rw [iteT_t hw] at h1 h2
      refine run_go 3 ?_
      refine brF (by decide) ?_
      refine run_go 4 ?_
      by_cases f : c = 16
      · rw [iteT_t f] at h2
        refine brnT (by rw [hcn, f]; rfl) ?_
        refine run_go 40 ?_
        refine r12_bad hk hf ?_
        refine r12_mustF (by rw [bd_f.1]; decide) ?_
        refine brF (by rw [bd_f.1]; decide) ?_
        exact h2 (Nat.succ_ne_zero 2) _ (bd_F frm.rf) rfl bd_f.1 bd_f.2
      · rw [iteT_f f] at h1 h2
        have c16 : c < 16 := by omega
        have N := in54 c16
        refine brnF (by rw [hcn]; exact (by simp (disch := first | omega | (simp (disch := omega) only [nI_toInt, Int32.reduceToInt, i_sub, i_add, i_mul]; omega)) only [iNONE, i_lt, i_le, i_eq, i_in, nI_toInt, Int32.reduceToInt, i_sub, i_add, i_mul]; omega)) ?_
        refine run_go 6 ?_
        refine r12_mustY hT hk hf (by rcases hw with z | z <;> exact wd_k z) (fun μ1 F1 E1 K1 => ?_)
        have T1 := hT.fr F1
        have f1 : μ1.1 41 0 28 = 0 := (F1 41 0 28 (by unfold fTr; omega)).trans hf
        have n1 : μ1.1 41 0 19 = nI c := (F1 41 0 19 (by unfold fTr; omega)).trans hcn
        have G1 : frm (fRr c) μ μ1 := fRr_tr F1
        refine brT (by rw [f1]; decide) ?_
        refine run_go 9 ?_
        by_cases w0 : wdP tl tp s 0
        · rw [iteT_t w0] at h1 h2
          unfold rdL at h1 h2
          refine brnT ((W s 0 (by decide) _ (by decide)).mpr w0) ?_
          refine run_go 24 ?_
          refine r12_numberTo (m := 7) rfl (by decide) T1 K1 f1 (fun e3 e4 μ2 F2 E2 K2 => ?_) (fun e3 e4 v => ?_) (fun e3 v => ?_)
          · rw [iteT_t e3, iteT_t e4] at h1 h2
            refine And.intro (by rw [n1]; exact N.1) ?_
            refine And.intro (by rw [n1]; exact N.2.1) ?_
            rw [n1, N.2.2.2.1, N.2.2.2.2.1]
            have T2 : tpR (m_i (m_i μ2 54 0 (3 * c) (nI (nuV tl tp (nxT' tl tp s)))) 54 0 (3 * c + 1) 4) tl tp := tpR_54 (tpR_54 (T1.fr F2))
            have K2' : tkR (m_i (m_i μ2 54 0 (3 * c) (nI (nuV tl tp (nxT' tl tp s)))) 54 0 (3 * c + 1) 4) tl tp _ := tkR_54 (tkR_54 K2)
            have f2 : (m_i (m_i μ2 54 0 (3 * c) (nI (nuV tl tp (nxT' tl tp s)))) 54 0 (3 * c + 1) 4).1 41 0 28 = 0 := (F2 41 0 28 (by unfold fTr; omega)).trans f1
            have n2 : (m_i (m_i μ2 54 0 (3 * c) (nI (nuV tl tp (nxT' tl tp s)))) 54 0 (3 * c + 1) 4).1 41 0 19 = nI c := (F2 41 0 19 (by unfold fTr; omega)).trans n1
            have G2 : frm (fRr c) μ (m_i (m_i μ2 54 0 (3 * c) (nI (nuV tl tp (nxT' tl tp s)))) 54 0 (3 * c + 1) 4) := ((G1.tr (fRr_tr F2)).mi (by unfold fRr; omega)).mi (by unfold fRr; omega)
            have v0 : (m_i (m_i μ2 54 0 (3 * c) (nI (nuV tl tp (nxT' tl tp s)))) 54 0 (3 * c + 1) 4).1 54 0 (3 * c) = nI (nuV tl tp (nxT' tl tp s)) := (mi_k (by omega)).trans mi_s
            have v1 : (m_i (m_i μ2 54 0 (3 * c) (nI (nuV tl tp (nxT' tl tp s)))) 54 0 (3 * c + 1) 4).1 54 0 (3 * c + 1) = nI 4 := mi_s
            have E2' : (m_i (m_i μ2 54 0 (3 * c) (nI (nuV tl tp (nxT' tl tp s)))) 54 0 (3 * c + 1) 4).2 = μ.2 := E2.trans E1
            generalize m_i (m_i μ2 54 0 (3 * c) (nI (nuV tl tp (nxT' tl tp s)))) 54 0 (3 * c + 1) 4 = M2 at T2 K2' f2 n2 G2 v0 v1 E2' ⊢
            refine r12_numberTo (m := 200) rfl (by decide) T2 K2' f2 (fun e5 e6 μ3 F3 E3 K3 => ?_) (fun e5 e6 v => ?_) (fun e5 v => ?_)
            · rw [iteT_t e5, iteT_t e6] at h1 h2
              refine And.intro (by rw [← n1, n1]; exact N.2.2.1) ?_
              rw [N.2.2.2.2.2]
              refine r12_nvEnd (ls := _) (tpR_54 (T2.fr F3)) (tkR_54 K3) ((F3 41 0 28 (by unfold fTr; omega)).trans f2) ((F3 41 0 19 (by unfold fTr; omega)).trans n2) ⟨?_, ?_, mi_s⟩ ((G2.tr (fRr_tr F3)).mi (by unfold fRr; omega)) (E3.trans E2') h1 h2
              · rw [mi_k (by omega), F3 54 0 _ (by unfold fTr; omega)]; exact v0
              · rw [mi_k (by omega), F3 54 0 _ (by unfold fTr; omega)]; exact v1
            · rw [iteT_t e5, iteT_f (by omega)] at h2
              refine And.intro N.2.2.1 ?_
              rw [N.2.2.2.2.2]
              exact r12_nvBad (ls := _) (e := 2) (by decide) ((mi_t (by decide)).trans bd_f.1) ((mi_t (by decide)).trans bd_f.2) ((bd_F G2).mi (by unfold fRr; omega)) E2' h2
            · rw [iteT_f e5] at h2
              refine And.intro N.2.2.1 ?_
              rw [N.2.2.2.2.2]
              exact r12_nvBad (ls := _) (e := 1) (by decide) ((mi_t (by decide)).trans bd_f.1) ((mi_t (by decide)).trans bd_f.2) ((bd_F G2).mi (by unfold fRr; omega)) E2' h2
          · rw [iteT_t e3, iteT_f (by omega)] at h2
            refine And.intro (by rw [n1]; exact N.1) ?_
            refine And.intro (by rw [n1]; exact N.2.1) ?_
            rw [n1, N.2.2.2.1, N.2.2.2.2.1]
            refine r12_numberF (by rw [mi_t (by decide), mi_t (by decide), bd_f.1]; decide) ?_
            refine And.intro N.2.2.1 ?_
            rw [N.2.2.2.2.2]
            exact r12_nvBad (ls := _) (e := 2) (by decide) ((mi_t (by decide)).trans ((mi_t (by decide)).trans ((mi_t (by decide)).trans bd_f.1))) ((mi_t (by decide)).trans ((mi_t (by decide)).trans ((mi_t (by decide)).trans bd_f.2))) ((((bd_F G1).mi (by unfold fRr; omega)).mi (by unfold fRr; omega)).mi (by unfold fRr; omega)) E1 h2
          · rw [iteT_f e3] at h2
            refine And.intro (by rw [n1]; exact N.1) ?_
            refine And.intro (by rw [n1]; exact N.2.1) ?_
            rw [n1, N.2.2.2.1, N.2.2.2.2.1]
            refine r12_numberF (by rw [mi_t (by decide), mi_t (by decide), bd_f.1]; decide) ?_
            refine And.intro N.2.2.1 ?_
            rw [N.2.2.2.2.2]
            exact r12_nvBad (ls := _) (e := 1) (by decide) ((mi_t (by decide)).trans ((mi_t (by decide)).trans ((mi_t (by decide)).trans bd_f.1))) ((mi_t (by decide)).trans ((mi_t (by decide)).trans ((mi_t (by decide)).trans bd_f.2))) ((((bd_F G1).mi (by unfold fRr; omega)).mi (by unfold fRr; omega)).mi (by unfold fRr; omega)) E1 h2
        · rw [iteT_f w0] at h1 h2
          refine brnF (fun z => w0 ((W s 0 (by decide) _ (by decide)).mp z)) ?_
          show Run k12_readNever (Call (d + 4)) Q 116 [some (sR 41 0), some (sL (Int64.ofNat (wdV tl tp s))), none, some (sI (nI 1)), some (sI (3 * μ1.1 41 0 19))] [] μ1
          rw [n1]
          exact r12_rnB c16 T1 K1 f1 n1 G1 E1 h1 h2
    · have e0 : e = 0 := by
        refine Classical.byContradiction (fun z => hw (he.mp (by omega)))
      subst e0
      rw [iteT_f hw] at h2
      refine run_go 60 ?_
      refine brT rfl ?_
      refine r12_mustN hk hf ?_
      refine brF (by rw [bd_f.1]; decide) ?_
      exact h2 (Nat.succ_ne_zero 0) _ (bd_F frm.rf) rfl bd_f.1 bd_f.2
  refine call_go (cd := k12_readNever) 7 rfl rfl ?_
  refine r12_word hT hk ?_
  by_cases c1 : wdP tl tp s 1
  · refine brT ((W s 1 (by decide) _ (by decide)).mpr c1) ?_
    refine run_go 2 ?_
    exact go 1 (by decide) ⟨fun _ => Or.inr c1, fun _ => rfl⟩
  · refine brF (fun z => c1 ((W s 1 (by decide) _ (by decide)).mp z)) ?_
    refine run_go 4 ?_
    by_cases c0 : wdP tl tp s 0
    · refine brnT ((W s 0 (by decide) _ (by decide)).mpr c0) ?_
      refine run_go 2 ?_
      exact go 1 (by decide) ⟨fun _ => Or.inl c0, fun _ => rfl⟩
    · refine brnF (fun z => c0 ((W s 0 (by decide) _ (by decide)).mp z)) ?_
      refine run_go 1 ?_
      exact go 0 (by decide) ⟨fun z => by omega, fun z => by rcases z with z | z; exact absurd z c0; exact absurd z c1⟩
end OP
