/-! one never is read: the class -/
abbrev oT : Type := Nat × Nat × Nat × Nat × Nat × Nat
noncomputable def iteT (P : Prop) (a b : oT) : oT := @ite oT P (Classical.propDecidable P) a b
theorem iteT_t {P : Prop} {a b : oT} (h : P) : iteT P a b = a := if_pos h
theorem iteT_f {P : Prop} {a b : oT} (h : ¬ P) : iteT P a b = b := if_neg h
def oF (c s : Nat) : oT := (c, s, 0, 0, 0, 0)
def oY (p w q s : Nat) : oT := (0, 0, p, w, q, s)
noncomputable def rdL (tl : Nat) (tp : Nat → Nat) (s : Nat) : oT := iteT (xK tl tp s = 2) (iteT (nuV tl tp s ≤ 7) (iteT (xK tl tp (nxT' tl tp s) = 2) (iteT (nuV tl tp (nxT' tl tp s) ≤ 200) (iteT (xK tl tp (nxT' tl tp (nxT' tl tp s)) = 3) (oY (nuV tl tp s) 4 (nuV tl tp (nxT' tl tp s)) (nxT' tl tp (nxT' tl tp (nxT' tl tp s)))) (oF 1 (nxT' tl tp (nxT' tl tp s)))) (oF 2 (nxT' tl tp s))) (oF 1 (nxT' tl tp s))) (oF 2 s)) (oF 1 s)
/-- behind a sort (a) and 'at'; behind a sort and a relation -/
noncomputable def rdA (tl : Nat) (tp : Nat → Nat) (a s : Nat) : oT := iteT (xK tl tp s = 2) (iteT (nuV tl tp s ≤ 7) (iteT (xK tl tp (nxT' tl tp s) = 3) (oY a 3 (nuV tl tp s) (nxT' tl tp (nxT' tl tp s))) (oF 1 (nxT' tl tp s))) (oF 2 s)) (oF 1 s)
noncomputable def rdR (tl : Nat) (tp : Nat → Nat) (a s : Nat) : oT := iteT (reV tl tp s = 9) (oF 1 s) (iteT (soV tl tp (nxT' tl tp s) = 9) (oF 1 (nxT' tl tp s)) (iteT (xK tl tp (nxT' tl tp (nxT' tl tp s)) = 3) (oY a (reV tl tp s) (soV tl tp (nxT' tl tp s)) (nxT' tl tp (nxT' tl tp (nxT' tl tp s)))) (oF 1 (nxT' tl tp (nxT' tl tp s)))))
noncomputable def rdB (tl : Nat) (tp : Nat → Nat) (s : Nat) : oT := iteT (soV tl tp s = 9) (oF 1 s) (iteT (wdP tl tp (nxT' tl tp s) 6) (rdA tl tp (soV tl tp s) (nxT' tl tp (nxT' tl tp s))) (rdR tl tp (soV tl tp s) (nxT' tl tp s)))
noncomputable def rdO (tl : Nat) (tp : Nat → Nat) (fu : Prop) (s : Nat) : oT := iteT (wdP tl tp s 0 ∨ wdP tl tp s 1) (iteT fu (oF 3 s) (iteT (wdP tl tp s 0) (rdL tl tp (nxT' tl tp s)) (rdB tl tp (nxT' tl tp s)))) (oF 1 s)
/-- what reading one never leaves as it was -/
def fRd (c : Nat) (a _ k : Nat) : Prop := ¬ (a = 33 ∧ 3 ≤ k ∧ k ≤ 5) ∧ ¬ (a = 28 ∧ k = 6) ∧ ¬ (29 ≤ a ∧ a ≤ 32 ∧ k = c)
def fRx (a _ k : Nat) : Prop := ¬ (a = 33 ∧ 3 ≤ k ∧ k ≤ 7)
def okC (μ : sM) (tl : Nat) (tp : Nat → Nat) (c : Nat) (O : oT) (Q : sQ) (w0 : Nat) : Prop := O.1 = 0 → ∀ μ', frm (fRd c) μ μ' → μ'.2 = μ.2 → tkC μ' tl tp O.2.2.2.2.2 → μ'.1 28 0 6 = nI (w0 + 1) → nvC μ' c O.2.2.1 O.2.2.2.1 O.2.2.2.2.1 → Q 1 0 (0, 0) μ'
def noC (μ : sM) (O : oT) (Q : sQ) : Prop := ¬ O.1 = 0 → ∀ μ', frm fRx μ μ' → μ'.2 = μ.2 → μ'.1 33 0 6 = nI O.1 → μ'.1 33 0 7 = nI O.2.1 → Q 0 0 (0, 0) μ'
section OP
variable {d n k c s a b r u o i m p q t tl j w l nv w0 : Nat} {tp : Nat → Nat} {μ μ' μ'' M : sM} {Q : sQ} {x y z v : Int32} {ξ : Nat → Nat → Int32} {O : oT}
theorem no_wr {s1 : Nat} (h : noC μ (oF c s1) Q) (F : frm fTk μ μ') (E : μ'.2 = μ.2) (hc : ¬ c = 0) (hx : x = nI c) : Q 0 0 (0, 0) (wrM μ' x s1) := by
  refine h hc _ (fun a i k z => ?_) E ?_ ?_
  · unfold fRx at z
    unfold wrM
    rw [mi_n (by omega), mi_n (by omega)]
    exact F a i k (by unfold fTk; omega)
  · unfold wrM; rw [mi_k (by decide), mi_s, hx]; rfl
  · unfold wrM; rw [mi_s]; rfl
theorem c5_await {x y z v : Int32} (hnv : μ.1 28 0 5 = nI nv) (hw0 : μ.1 28 0 6 = nI w0) (hc : nv + w0 < 16) (h : Q 1 0 (0, 0) (m_i (m_i (m_i (m_i (m_i μ 29 0 (nv + w0) x) 30 0 (nv + w0) y) 31 0 (nv + w0) z) 32 0 (nv + w0) v) 28 0 6 (nI (w0 + 1)))) : Call (d + 2) n5_await [sR 28 0, sI x, sI y, sI z, sI v] μ Q := by
  have e : μ.1 28 0 5 + μ.1 28 0 6 = nI (nv + w0) := by rw [hnv, hw0, nI_add]
  refine call_go (cd := k5_await) 10 rfl rfl ?_
  refine c11_isWithin (b := 16) (a := nv + w0) e rfl (by omega) (by decide) (fun _ => ?_) (fun z => by omega)
  refine brnF (by decide) ?_
  rw [e]
  refine run_go 30 ?_
  refine And.intro (by simp (disch := first | omega | (simp (disch := omega) only [nI_toInt, Int32.reduceToInt, i_sub, i_add, i_mul]; omega)) only [iNONE, i_lt, i_le, i_eq, i_in, nI_toInt, Int32.reduceToInt, i_sub, i_add, i_mul]; omega) ?_
  refine And.intro (by simp (disch := first | omega | (simp (disch := omega) only [nI_toInt, Int32.reduceToInt, i_sub, i_add, i_mul]; omega)) only [iNONE, i_lt, i_le, i_eq, i_in, nI_toInt, Int32.reduceToInt, i_sub, i_add, i_mul]; omega) ?_
  refine And.intro (by simp (disch := first | omega | (simp (disch := omega) only [nI_toInt, Int32.reduceToInt, i_sub, i_add, i_mul]; omega)) only [iNONE, i_lt, i_le, i_eq, i_in, nI_toInt, Int32.reduceToInt, i_sub, i_add, i_mul]; omega) ?_
  refine And.intro (by simp (disch := first | omega | (simp (disch := omega) only [nI_toInt, Int32.reduceToInt, i_sub, i_add, i_mul]; omega)) only [iNONE, i_lt, i_le, i_eq, i_in, nI_toInt, Int32.reduceToInt, i_sub, i_add, i_mul]; omega) ?_
  rw [nI_clamp (by omega)]
  refine ⟨Or.inr rfl, ?_⟩
  rw [show (m_i (m_i (m_i (m_i μ 29 0 (nv + w0) x) 30 0 (nv + w0) y) 31 0 (nv + w0) z) 32 0 (nv + w0) v).1 28 0 6 = nI w0 from hw0, nI_1]
  exact h
/-- told: the never stands behind the others -/
theorem ok_aw {s' : Nat} {f x y z v : Int32} (hok : okC μ tl tp (nv + w0) (oY p w q s') Q w0) (F : frm fTk μ μ') (E : μ'.2 = μ.2) (K : tkC μ' tl tp s') (hn : nvC (m_i (m_i (m_i (m_i (m_i μ' 29 0 (nv + w0) x) 30 0 (nv + w0) y) 31 0 (nv + w0) z) 32 0 (nv + w0) v) 28 0 6 (nI (w0 + 1))) (nv + w0) p w q) : Q 1 0 (0, 0) (m_i (m_i (m_i (m_i (m_i μ' 29 0 (nv + w0) x) 30 0 (nv + w0) y) 31 0 (nv + w0) z) 32 0 (nv + w0) v) 28 0 6 (nI (w0 + 1))) := by
  refine hok rfl _ (fun a i k g => ?_) E K mi_s hn
  unfold fRd at g
  rw [mi_n (by omega), mi_n (by omega), mi_n (by omega), mi_n (by omega), mi_n (by omega)]
  exact F a i k (by unfold fTk; omega)
theorem rw_f {x y z v : Int32} {c : Nat} : (m_i (m_i (m_i (m_i (m_i μ 29 0 c x) 30 0 c y) 31 0 c z) 32 0 c v) 28 0 6 (nI (w0 + 1))).1 29 0 c = x ∧ (m_i (m_i (m_i (m_i (m_i μ 29 0 c x) 30 0 c y) 31 0 c z) 32 0 c v) 28 0 6 (nI (w0 + 1))).1 30 0 c = y ∧ (m_i (m_i (m_i (m_i (m_i μ 29 0 c x) 30 0 c y) 31 0 c z) 32 0 c v) 28 0 6 (nI (w0 + 1))).1 31 0 c = z ∧ (m_i (m_i (m_i (m_i (m_i μ 29 0 c x) 30 0 c y) 31 0 c z) 32 0 c v) 28 0 6 (nI (w0 + 1))).1 32 0 c = v := by
  refine ⟨?_, ?_, ?_, ?_⟩
  · rw [mi_t (by decide), mi_t (by decide), mi_t (by decide), mi_t (by decide), mi_s]
  · rw [mi_t (by decide), mi_t (by decide), mi_t (by decide), mi_s]
  · rw [mi_t (by decide), mi_t (by decide), mi_s]
  · rw [mi_t (by decide), mi_s]
theorem c4_readLoad (hT : tpC μ tl tp) (hk : tkC μ tl tp s) (hnv : μ.1 28 0 5 = nI nv) (hw0 : μ.1 28 0 6 = nI w0) (hc : nv + w0 < 16) (h1 : okC μ tl tp (nv + w0) (rdL tl tp s) Q w0) (h2 : noC μ (rdL tl tp s) Q) : Call (d + 5) n4_readLoad [sR 33 0] μ Q := by
  unfold rdL at h1 h2
  refine call_go (cd := k4_readLoad) 60 rfl rfl ?_
  refine c4_takeNumber (m := 7) rfl (by decide) hT hk (fun e1 e2 μ1 F1 E1 K1 => ?_) (fun e1 e2 => ?_) (fun e1 => ?_)
  · rw [iteT_t e1, iteT_t e2] at h1 h2
    have T1 := hT.fr F1
    refine brnF (nNO (by omega)) ?_
    refine c4_takeNumber (m := 200) rfl (by decide) T1 K1 (fun e3 e4 μ2 F2 E2 K2 => ?_) (fun e3 e4 => ?_) (fun e3 => ?_)
    · rw [iteT_t e3, iteT_t e4] at h1 h2
      have T2 := T1.fr F2
      refine brF (nNO (by omega)) ?_
      refine c4_takeStop T2 K2 (fun e5 μ3 F3 E3 K3 => ?_) (fun e5 => ?_)
      · rw [iteT_t e5] at h1
        have F13 := (F1.tr F2).tr F3
        refine brF (by decide) ?_
        refine c5_await ((F13 28 0 5 (by unfold fTk; omega)).trans hnv) ((F13 28 0 6 (by unfold fTk; omega)).trans hw0) hc ?_
        refine brF (by decide) ?_
        refine ⟨Or.inr rfl, ?_⟩
        have g := rw_f (μ := μ3) (w0 := w0) (c := nv + w0) (x := 1) (y := nI (nuV tl tp s)) (z := nI (nuV tl tp (nxT' tl tp s))) (v := 0)
        exact ok_aw (f := 0) h1 F13 (E3.trans (E2.trans E1)) K3 ⟨g.2.1, fun _ => ⟨g.1, g.2.2.1⟩, fun z => absurd z (by decide), fun z => absurd z (by decide)⟩
      · rw [iteT_f e5] at h2
        refine brT rfl ?_
        exact ⟨Or.inl rfl, no_wr h2 (F1.tr F2) (E2.trans E1) (by decide) rfl⟩
    · rw [iteT_t e3, iteT_f (by omega)] at h2
      refine brT rfl ?_
      exact ⟨Or.inl rfl, no_wr h2 F1 E1 (by decide) rfl⟩
    · rw [iteT_f e3] at h2
      refine brT rfl ?_
      exact ⟨Or.inl rfl, no_wr h2 F1 E1 (by decide) rfl⟩
  · rw [iteT_t e1, iteT_f (by omega)] at h2
    refine brnT rfl ?_
    refine brT rfl ?_
    exact ⟨Or.inl rfl, no_wr h2 frm.rf rfl (by decide) rfl⟩
  · rw [iteT_f e1] at h2
    refine brnT rfl ?_
    refine brT rfl ?_
    exact ⟨Or.inl rfl, no_wr h2 frm.rf rfl (by decide) rfl⟩
theorem c4_readForbidden (hT : tpC μ tl tp) (hk : tkC μ tl tp s) (hnv : μ.1 28 0 5 = nI nv) (hw0 : μ.1 28 0 6 = nI w0) (hc : nv + w0 < 16) (h1 : okC μ tl tp (nv + w0) (rdB tl tp s) Q w0) (h2 : noC μ (rdB tl tp s) Q) : Call (d + 5) n4_readForbidden [sR 33 0] μ Q := by
  unfold rdB at h1 h2
  refine call_go (cd := k4_readForbidden) 6 rfl rfl ?_
  refine c4_takeSort hT hk (fun e1 μ1 F1 E1 K1 => ?_) (fun e1 => ?_)
  · rw [iteT_f e1] at h1 h2
    have T1 := hT.fr F1
    have s4 := (so_k e1).2
    refine brF (nNO (by omega)) ?_
    refine run_go 4 ?_
    refine c4_isWord_6 T1 K1 (fun ea => ?_) (fun ea => ?_)
    · rw [iteT_t ea] at h1 h2
      unfold rdA at h1 h2
      refine brF (by decide) ?_
      refine run_go 60 ?_
      refine c4_adv T1 K1 (wd_k ea) (fun μ2 F2 E2 K2 => ?_)
      have T2 := T1.fr F2
      have F12 := F1.tr F2
      refine c4_takeNumber (m := 7) rfl (by decide) T2 K2 (fun e3 e4 μ3 F3 E3 K3 => ?_) (fun e3 e4 => ?_) (fun e3 => ?_)
      · rw [iteT_t e3, iteT_t e4] at h1 h2
        have T3 := T2.fr F3
        refine brF (nNO (by omega)) ?_
        refine c4_takeStop T3 K3 (fun e5 μ4 F4 E4 K4 => ?_) (fun e5 => ?_)
        · rw [iteT_t e5] at h1
          have F14 := (F12.tr F3).tr F4
          refine brF (by decide) ?_
          refine c5_await ((F14 28 0 5 (by unfold fTk; omega)).trans hnv) ((F14 28 0 6 (by unfold fTk; omega)).trans hw0) hc ?_
          refine brF (by decide) ?_
          refine ⟨Or.inr rfl, ?_⟩
          have g := rw_f (μ := μ4) (w0 := w0) (c := nv + w0) (x := 2) (y := nI (soV tl tp s)) (z := nI (nuV tl tp (nxT' tl tp (nxT' tl tp s)))) (v := 0)
          exact ok_aw (f := 0) h1 F14 (E4.trans (E3.trans (E2.trans E1))) K4 ⟨g.2.1, fun z => absurd z (by decide), fun _ => ⟨g.1, g.2.2.1⟩, fun z => absurd z (by decide)⟩
        · rw [iteT_f e5] at h2
          refine brT rfl ?_
          exact ⟨Or.inl rfl, no_wr h2 (F12.tr F3) (E3.trans (E2.trans E1)) (by decide) rfl⟩
      · rw [iteT_t e3, iteT_f (by omega)] at h2
        refine brT rfl ?_
        exact ⟨Or.inl rfl, no_wr h2 F12 (E2.trans E1) (by decide) rfl⟩
      · rw [iteT_f e3] at h2
        refine brT rfl ?_
        exact ⟨Or.inl rfl, no_wr h2 F12 (E2.trans E1) (by decide) rfl⟩
    · rw [iteT_f ea] at h1 h2
      unfold rdR at h1 h2
      refine brT rfl ?_
      refine run_go 60 ?_
      refine brnF (nNO (by omega)) ?_
      refine c4_takeRel T1 K1 (fun e3 μ2 F2 E2 K2 => ?_) (fun e3 => ?_)
      · rw [iteT_f e3] at h1 h2
        have T2 := T1.fr F2
        have F12 := F1.tr F2
        have r3 := (re_k e3).2
        refine brnF (nNO (by omega)) ?_
        refine c4_takeSort T2 K2 (fun e4 μ3 F3 E3 K3 => ?_) (fun e4 => ?_)
        · rw [iteT_f e4] at h1 h2
          have T3 := T2.fr F3
          have s5 := (so_k e4).2
          refine brF (nNO (by omega)) ?_
          refine c4_takeStop T3 K3 (fun e5 μ4 F4 E4 K4 => ?_) (fun e5 => ?_)
          · rw [iteT_t e5] at h1
            have F14 := (F12.tr F3).tr F4
            refine brF (by decide) ?_
            refine c5_await ((F14 28 0 5 (by unfold fTk; omega)).trans hnv) ((F14 28 0 6 (by unfold fTk; omega)).trans hw0) hc ?_
            refine brF (by decide) ?_
            refine ⟨Or.inr rfl, ?_⟩
            have g := rw_f (μ := μ4) (w0 := w0) (c := nv + w0) (x := 0) (y := nI (soV tl tp s)) (z := nI (reV tl tp (nxT' tl tp s))) (v := nI (soV tl tp (nxT' tl tp (nxT' tl tp s))))
            exact ok_aw (f := 0) h1 F14 (E4.trans (E3.trans (E2.trans E1))) K4 ⟨g.2.1, fun z => by omega, fun z => by omega, fun _ => ⟨g.1, g.2.2.1, g.2.2.2⟩⟩
          · rw [iteT_f e5] at h2
            refine brT rfl ?_
            exact ⟨Or.inl rfl, no_wr h2 (F12.tr F3) (E3.trans (E2.trans E1)) (by decide) rfl⟩
        · rw [iteT_t e4] at h2
          refine brT rfl ?_
          exact ⟨Or.inl rfl, no_wr h2 F12 (E2.trans E1) (by decide) rfl⟩
      · rw [iteT_t e3] at h2
        refine brnT rfl ?_
        refine brT rfl ?_
        exact ⟨Or.inl rfl, no_wr h2 F1 E1 (by decide) rfl⟩
  · rw [iteT_t e1] at h2
    refine brT rfl ?_
    refine run_go 60 ?_
    refine brnT rfl ?_
    refine brnT rfl ?_
    refine brT rfl ?_
    exact ⟨Or.inl rfl, no_wr h2 frm.rf rfl (by decide) rfl⟩
theorem c4_readNever (hT : tpC μ tl tp) (hk : tkC μ tl tp s) (hnv : μ.1 28 0 5 = nI nv) (hw0 : μ.1 28 0 6 = nI w0) (hc : nv + w0 ≤ 16) (h1 : okC μ tl tp (nv + w0) (rdO tl tp (nv + w0 = 16) s) Q w0) (h2 : noC μ (rdO tl tp (nv + w0 = 16) s) Q) : Call (d + 6) n4_readNever [sR 33 0] μ Q := by
  unfold rdO at h1 h2
  have e : μ.1 28 0 5 + μ.1 28 0 6 = nI (nv + w0) := by rw [hnv, hw0, nI_add]
  have go : ∀ b : Nat, (wdP tl tp s 0 ∨ wdP tl tp s 1) → (b = 1 ∧ wdP tl tp s 0 ∨ b = 0 ∧ ¬ wdP tl tp s 0) → Run k4_readNever (Call (d + 5)) Q 26 [some (sR 33 0), some (sI (nI b))] [] μ := by
    intro b hw hb
    rw [iteT_t hw] at h1 h2
    refine run_go 4 ?_
    refine call_go (cd := k5_isFull) 20 rfl rfl ?_
    by_cases f : nv + w0 = 16
    · rw [iteT_t f] at h2
      refine brF (by rw [e]; exact (by simp (disch := first | omega | (simp (disch := omega) only [nI_toInt, Int32.reduceToInt, i_sub, i_add, i_mul]; omega)) only [iNONE, i_lt, i_le, i_eq, i_in, nI_toInt, Int32.reduceToInt, i_sub, i_add, i_mul]; omega)) ?_
      refine ⟨Or.inr rfl, ?_⟩
      refine brF (by decide) ?_
      refine run_go 10 ?_
      refine c4_wrong hk ?_
      exact ⟨Or.inl rfl, no_wr h2 frm.rf rfl (by decide) rfl⟩
    · rw [iteT_f f] at h1 h2
      refine brT (by rw [e]; exact (by simp (disch := first | omega | (simp (disch := omega) only [nI_toInt, Int32.reduceToInt, i_sub, i_add, i_mul]; omega)) only [iNONE, i_lt, i_le, i_eq, i_in, nI_toInt, Int32.reduceToInt, i_sub, i_add, i_mul]; omega)) ?_
      refine ⟨Or.inl rfl, ?_⟩
      refine brT rfl ?_
      refine run_go 20 ?_
      refine c4_adv hT hk (by rcases hw with z | z <;> exact wd_k z) (fun μ1 F1 E1 K1 => ?_)
      have T1 := hT.fr F1
      have n1 := (F1 28 0 5 (by unfold fTk; omega)).trans hnv
      have v1 := (F1 28 0 6 (by unfold fTk; omega)).trans hw0
      have lift : ∀ O, okC μ tl tp (nv + w0) O Q w0 → okC μ1 tl tp (nv + w0) O Q w0 := fun O h z μ' F E => h z μ' (fun a i k g => (F a i k g).trans (F1 a i k (by unfold fRd at g; unfold fTk; omega))) (E.trans E1)
      have lift2 : ∀ O, noC μ O Q → noC μ1 O Q := fun O h z μ' F E => h z μ' (fun a i k g => (F a i k g).trans (F1 a i k (by unfold fRx at g; unfold fTk; omega))) (E.trans E1)
      rcases hb with ⟨rfl, hb⟩ | ⟨rfl, hb⟩
      · rw [iteT_t hb] at h1 h2
        refine brF (by decide) ?_
        refine c4_readLoad (Q := fun v _ _ μ' => (v = 0 ∨ v = 1) ∧ Q v 0 (0, 0) μ') T1 K1 n1 v1 (by omega) ?_ ?_
        · exact fun z μ' a1 a2 a3 a4 a5 => ⟨Or.inr rfl, lift _ h1 z μ' a1 a2 a3 a4 a5⟩
        · exact fun z μ' a1 a2 a3 a4 => ⟨Or.inl rfl, lift2 _ h2 z μ' a1 a2 a3 a4⟩
      · rw [iteT_f hb] at h1 h2
        refine brT rfl ?_
        refine c4_readForbidden (Q := fun v _ _ μ' => (v = 0 ∨ v = 1) ∧ Q v 0 (0, 0) μ') T1 K1 n1 v1 (by omega) ?_ ?_
        · exact fun z μ' a1 a2 a3 a4 a5 => ⟨Or.inr rfl, lift _ h1 z μ' a1 a2 a3 a4 a5⟩
        · exact fun z μ' a1 a2 a3 a4 => ⟨Or.inl rfl, lift2 _ h2 z μ' a1 a2 a3 a4⟩
  refine call_go (cd := k4_readNever) 6 rfl rfl ?_
  refine c4_isWord_0 hT hk (fun c1 => ?_) (fun c1 => ?_)
  · refine brnF (by decide) ?_
    exact go 1 (Or.inl c1) (Or.inl ⟨rfl, c1⟩)
  · refine brnT rfl ?_
    refine run_go 4 ?_
    refine c4_isWord_1 hT hk (fun c2 => ?_) (fun c2 => ?_)
    · refine brnF (by decide) ?_
      exact go 0 (Or.inr c2) (Or.inr ⟨rfl, c1⟩)
    · rw [iteT_f (fun z => by rcases z with z | z; exact c1 z; exact c2 z)] at h2
      refine brnT rfl ?_
      refine run_go 10 ?_
      refine c4_wrong hk ?_
      exact ⟨Or.inl rfl, no_wr h2 frm.rf rfl (by decide) rfl⟩
end OP
