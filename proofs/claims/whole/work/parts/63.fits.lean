/-! fits, quarrel -/
noncomputable def fcT (so : Nat → Nat) (n : Nat) (tb : Nat → tT) (l : lT) (m : Nat) : Nat := sumN (fun o => tB (fbT so n tb l o = 99)) m
noncomputable def obS (so : Nat → Nat) (n : Nat) (tb : Nat → tT) (l : lT) (o m : Nat) : Nat := stB (fun j => tB (sbP so n tb l j o)) m
/-- fewer, or as many and the lesser number -/
def btr (S B : Nat) : Prop := pop S < pop B ∨ pop S = pop B ∧ S < B
noncomputable def bqT (f : Nat → Nat) : Nat → Nat
  | 0 => f 0
  | m + 1 => @ite Nat (btr (f (m + 1)) (bqT f m)) (Classical.propDecidable _) (f (m + 1)) (bqT f m)
def bcF (x : Int32) : Int32 :=
  let u (a : Int32) (b : Int32) : Int32 := (a.toUInt32 >>> (b.toUInt32 &&& Int32.toUInt32 31)).toInt32
  let x1 := x - (u x 1 &&& 1431655765)
  let x2 := (x1 &&& 858993459) + (u x1 2 &&& 858993459)
  let x3 := (x2 + u x2 4) &&& 252645135
  let x4 := x3 + u x3 8
  let x5 := x4 + u x4 16
  x5 &&& 63
theorem bc_key : ∀ S, S < 256 → bcF (nI S) = nI (pop S) := by decide +kernel
def fG (a _ k : Nat) : Prop := ¬ (a = 26) ∧ ¬ (a = 20 ∧ k = 9)
section OP
variable {d n k c s a b r u o i rel κ lr t p j S : Nat} {μ μ' μ'' : sM} {Q : sQ} {so wt : Nat → Nat} {T T' : tT} {tb : Nat → tT} {l : lT} {x y z w v : Int32} {ξ : Nat → Nat → Int32}
theorem cJ_bits (hx : x = nI S) (hS : S < 256) (h : Q (nI (pop S)) 0 (0, 0) μ) : Call (d + 1) 252 [sI x] μ Q := by
  subst hx
  rw [← bc_key S hS] at h
  refine call_go (cd := kJ_bits) 80 rfl rfl ?_
  exact h
theorem fc_le (m : Nat) : fcT so n tb l m ≤ m := by
  have := sumN_le (f := fun o => tB (fbT so n tb l o = 99)) (b := 1) (n := m) (fun _ _ => tB_le)
  unfold fcT
  omega
theorem fc_mono {m m' : Nat} (h : m ≤ m') : fcT so n tb l m ≤ fcT so n tb l m' := sumN_mono h
theorem fc_s (m : Nat) : fcT so n tb l (m + 1) = fcT so n tb l m + tB (fbT so n tb l m = 99) := rfl
theorem fc_lt {m m' : Nat} (h : m < m') (hf : fbT so n tb l m = 99) : fcT so n tb l m < fcT so n tb l m' := by
  have h1 := fc_mono (so := so) (n := n) (tb := tb) (l := l) (m := m + 1) (m' := m') h
  rw [fc_s, tB_t hf] at h1
  omega
theorem fc_ex : ∀ (m c : Nat), c < fcT so n tb l m → ∃ o, o < m ∧ fbT so n tb l o = 99 ∧ fcT so n tb l o = c
  | 0, c, h => absurd h (Nat.not_lt_zero c)
  | m + 1, c, h => by
    rw [fc_s] at h
    by_cases e : fbT so n tb l m = 99
    · rw [tB_t e] at h
      by_cases e2 : c = fcT so n tb l m
      · exact ⟨m, by omega, e, e2.symm⟩
      · obtain ⟨o, h1, h2⟩ := fc_ex m c (by omega)
        exact ⟨o, by omega, h2⟩
    · rw [tB_f e] at h
      obtain ⟨o, h1, h2⟩ := fc_ex m c (by omega)
      exact ⟨o, by omega, h2⟩
def gfI (μ μ' : sM) (so : Nat → Nat) (n : Nat) (tb : Nat → tT) (l : lT) (o : Nat) : Prop := frm fG μ μ' ∧ μ'.2 = μ.2 ∧ μ'.1 20 0 9 = nI (fcT so n tb l o) ∧ ∀ o', o' < o → fbT so n tb l o' = 99 → μ'.1 26 0 (fcT so n tb l o') = nI o'
theorem fG_tb (h : tbG μ n so wt κ tb) (e : frm fG μ μ') : tbG μ' n so wt κ tb := h.fr (e.sub (fun a i k z => by unfold fT at z; unfold fG; omega))
theorem fG_lr (h : lrG μ n so κ tb lr) (e : frm fG μ μ') (e2 : μ'.2 = μ.2) : lrG μ' n so κ tb lr := h.fr (e.sub (fun a i k z => by unfold fT at z; unfold fG; omega)) e2
theorem fG_ls (h : lsC μ l) (e : frm fG μ μ') : lsC μ' l := h.fr (e.sub (fun a i k z => by unfold fLc at z; unfold fG; omega))
theorem c10_gatherFitting (h1 : tbG μ n so wt κ tb) (h2 : lrG μ n so κ tb κ) (hW : lsW κ l) (hC : lsC μ l) (h : ∀ μ', gfI μ μ' so n tb l 96 → Q (nI (fcT so n tb l 96)) 0 (0, 0) μ') : Call (d + 5) n10_gatherFitting [sR 20 0] μ Q := by
  refine call_go (cd := k10_gatherFitting) 5 rfl rfl ?_
  refine loopC (cd := k10_gatherFitting) (d := d + 4) (Q := Q) 96 (fun o ls μ' => ls = [some (sR 20 0), some (sI (nI o))] ∧ gfI μ μ' so n tb l o) 7 0 _ _ (Nat.zero_le _) ⟨rfl, frm.rf.mi (by unfold fG; omega), rfl, mi_s, fun o ho => absurd ho (Nat.not_lt_zero o)⟩ ?_
  rintro o ls μ1 ho ⟨rfl, F1, E1, M1, V1⟩ kk
  have hf := fc_le (so := so) (n := n) (tb := tb) (l := l) o
  refine run_go 3 ?_
  by_cases q : o = 96
  · subst q
    refine brT (by simp (disch := first | omega | (simp (disch := omega) only [nI_toInt, Int32.reduceToInt, i_sub, i_add, i_mul]; omega)) only [iNONE, i_lt, i_le, i_eq, i_in, nI_toInt, Int32.reduceToInt, i_sub, i_add, i_mul]; omega) ?_
    refine run_go 10 ?_
    show Q (μ1.1 20 0 9) 0 (0, 0) μ1
    rw [M1]
    exact h _ ⟨F1, E1, M1, V1⟩
  · refine brF (by simp (disch := first | omega | (simp (disch := omega) only [nI_toInt, Int32.reduceToInt, i_sub, i_add, i_mul]; omega)) only [iNONE, i_lt, i_le, i_eq, i_in, nI_toInt, Int32.reduceToInt, i_sub, i_add, i_mul]; omega) ?_
    refine run_go 5 ?_
    refine c10_firstThatBars rfl (fG_tb h1 F1) (fG_lr h2 F1 E1) hW (fG_ls hC F1) (by omega) ?_
    by_cases e : fbT so n tb l o = 99
    · rw [e]
      refine brnT rfl ?_
      refine run_go 14 ?_
      refine And.intro (by rw [M1]; exact vp_in_nI (by omega) (by decide)) ?_
      rw [M1, nI_clamp (by omega)]
      refine kk _ _ (by omega) ⟨by rw [← nI_1], ?_, E1, ?_, fun o' ho' e' => ?_⟩
      · exact (F1.mi (by unfold fG; omega)).mi (by unfold fG; omega)
      · rw [mi_s, mi_t (by decide), M1, fc_s, tB_t e, nI_1]
      · rw [mi_t (by decide)]
        by_cases q2 : o' = o
        · subst q2; rw [mi_s]
        · have := fc_lt (so := so) (n := n) (tb := tb) (l := l) (m := o') (m' := o) (by omega) e'
          rw [mi_k (by omega)]; exact V1 o' (by omega) e'
    · have hs : fbT so n tb l o < 99 := by
        have hm := hW.1
        rcases fstN_sp (P := fun j => sbP so n tb l j o) (n := eN l) (by omega) with ⟨z, _⟩ | ⟨z, _⟩
        · exact absurd z e
        · have z : fbT so n tb l o < eN l := z
          omega
      rw [p9_n e]
      refine brnF (by rw [show (-1000000 : Int32) = nONE from rfl]; exact (by simp (disch := first | omega | (simp (disch := omega) only [nI_toInt, Int32.reduceToInt, i_sub, i_add, i_mul]; omega)) only [iNONE, i_lt, i_le, i_eq, i_in, nI_toInt, Int32.reduceToInt, i_sub, i_add, i_mul]; omega)) ?_
      refine run_go 2 ?_
      refine kk _ _ (by omega) ⟨by rw [← nI_1], F1, E1, ?_, fun o' ho' e' => ?_⟩
      · rw [fc_s, tB_f e]; exact M1
      · by_cases q2 : o' = o
        · subst q2; exact absurd e' e
        · exact V1 o' (by omega) e'
theorem INV.G (h : INV ξ μ) (e : frm fG μ μ') (e2 : μ'.2 = μ.2) : INV ξ μ' := h.fr (e.sub (fun a i k z => by unfold fA fT fO fS fR fN fP fX fF fL at z; unfold fG; omega)) e2
/-- the orders that fit, one after another, in the reference -/
theorem r12_next (hκ : κ ≤ 8) (hw : ∀ t, t ≤ κ → wfT so n (tb t)) (hG : rfG μ n so wt κ tb l) (hW : lsW κ l) (ho : o < 96) (h : ∀ μ', agK μ μ' → Q (p9 (fbT so n tb l o)) 0 (0, 0) μ') : Call (d + 10) n12_standing [sR 41 0] μ (fun v _ _ μ' => Call (d + 10) n12_barredBy [sR 41 0, sI (nI o), sI v] μ' Q) := by
  refine r12_standing2 hW hG.2.2 ?_
  exact r12_barredBy rfl rfl hκ hw hG hW ho h
theorem fb_lt (hW : lsW κ l) (e : ¬ fbT so n tb l o = 99) : fbT so n tb l o < 8 := by
  have hm := hW.1
  rcases fstN_sp (P := fun j => sbP so n tb l j o) (n := eN l) (by omega) with ⟨z, _⟩ | ⟨z, _⟩
  · exact absurd z e
  · have z : fbT so n tb l o < eN l := z
    omega
theorem op_fits (hI : INV ξ μ) (h : ∀ v μ', opQ ξ (d + 20) n12_fits [sR 41 0, sI x] v μ' → Q v 0 (0, 0) μ') : Call (d + 20) n11_fits [sR 0 0, sI x] μ Q := by
  have rx := i_rng x
  refine call_go (cd := k11_fits) 60 rfl rfl ?_
  by_cases c0 : x.toInt < -1
  · refine brF (by simp (disch := first | omega | (simp (disch := omega) only [nI_toInt, Int32.reduceToInt, i_sub, i_add, i_mul]; omega)) only [iNONE, i_lt, i_le, i_eq, i_in, nI_toInt, Int32.reduceToInt, i_sub, i_add, i_mul]; omega) ?_
    refine h _ _ (fun Q hq => ?_)
    refine call_go (cd := k12_fits) 20 rfl rfl ?_
    refine brF (by simp (disch := first | omega | (simp (disch := omega) only [nI_toInt, Int32.reduceToInt, i_sub, i_add, i_mul]; omega)) only [iNONE, i_lt, i_le, i_eq, i_in, nI_toInt, Int32.reduceToInt, i_sub, i_add, i_mul]; omega) ?_
    exact hq _ hI.th
  · refine brT (by simp (disch := first | omega | (simp (disch := omega) only [nI_toInt, Int32.reduceToInt, i_sub, i_add, i_mul]; omega)) only [iNONE, i_lt, i_le, i_eq, i_in, nI_toInt, Int32.reduceToInt, i_sub, i_add, i_mul]; omega) ?_
    refine c7_learnI hI (fun μ1 n so wt κ tb h1 h2 h3 hI1 => ?_)
    obtain ⟨l, g1, g2, g3⟩ := h3.lg
    have hκ := h1.2.2.1
    refine c10_gatherFitting h1 h2 g1 g2 (fun μ2 I2 => ?_)
    obtain ⟨F2, E2, M2, V2⟩ := I2
    have hI2 := hI1.G F2 E2
    have t2 := fG_tb h1 F2
    have R2 : lsR μ2 l := g3.fr (F2.sub (fun a i k z => by unfold fLr at z; unfold fG; omega))
    have G2 := rf_of t2 R2
    have hf := fc_le (so := so) (n := n) (tb := tb) (l := l) 96
    have ref : ∀ (v : Int32) (Q : sQ), (∀ o, o < 96 → fbT so n tb l o = 99 → nI (fcT so n tb l o) = x → v = nI o) → ((∀ o, o < 96 → fbT so n tb l o = 99 → ¬ nI (fcT so n tb l o) = x) → v = if x = -1 then nI (fcT so n tb l 96) else nONE) → (∀ μ', INV ξ μ' → Q v 0 (0, 0) μ') → Call (d + 20) n12_fits [sR 41 0, sI x] μ2 Q := by
      intro v Q v1 v2 hq
      refine call_go (cd := k12_fits) 6 rfl rfl ?_
      refine brT (by simp (disch := first | omega | (simp (disch := omega) only [nI_toInt, Int32.reduceToInt, i_sub, i_add, i_mul]; omega)) only [iNONE, i_lt, i_le, i_eq, i_in, nI_toInt, Int32.reduceToInt, i_sub, i_add, i_mul]; omega) ?_
      refine run_go 4 ?_
      refine loopC (cd := k12_fits) (d := d + 19) (Q := Q) 96 (fun o ls μ' => ls = [some (sR 41 0), some (sI x), some (sI (nI (fcT so n tb l o))), some (sI (nI o))] ∧ agK (m_i μ2 41 0 0 0) μ' ∧ ∀ o', o' < o → fbT so n tb l o' = 99 → ¬ nI (fcT so n tb l o') = x) 17 0 _ _ (Nat.zero_le _) ⟨rfl, agK.rf, fun o ho => absurd ho (Nat.not_lt_zero o)⟩ ?_
      rintro o ls μ3 ho ⟨rfl, A3, hp⟩ kk
      have hfo := fc_le (so := so) (n := n) (tb := tb) (l := l) o
      refine run_go 3 ?_
      by_cases q : o = 96
      · subst q
        refine brT (by simp (disch := first | omega | (simp (disch := omega) only [nI_toInt, Int32.reduceToInt, i_sub, i_add, i_mul]; omega)) only [iNONE, i_lt, i_le, i_eq, i_in, nI_toInt, Int32.reduceToInt, i_sub, i_add, i_mul]; omega) ?_
        have hq := hq _ (hI2.th.K A3)
        rw [v2 hp] at hq
        refine run_go 20 ?_
        by_cases e : x = -1
        · rw [if_pos e] at hq
          refine brnT e ?_
          exact hq
        · rw [if_neg e] at hq
          refine brnF e ?_
          exact hq
      · refine brF (by simp (disch := first | omega | (simp (disch := omega) only [nI_toInt, Int32.reduceToInt, i_sub, i_add, i_mul]; omega)) only [iNONE, i_lt, i_le, i_eq, i_in, nI_toInt, Int32.reduceToInt, i_sub, i_add, i_mul]; omega) ?_
        refine run_go 7 ?_
        refine r12_next hκ h1.2.2.2.2.2.1 (G2.K hκ A3) g1 (by omega) (fun μ4 A4 => ?_)
        by_cases e : fbT so n tb l o = 99
        · rw [e]
          refine brnT rfl ?_
          refine run_go 3 ?_
          by_cases e2 : nI (fcT so n tb l o) = x
          · refine brnT e2 ?_
            refine run_go 10 ?_
            have hq := hq _ (hI2.th.K (A3.tr A4))
            rw [v1 o (by omega) e e2] at hq
            exact hq
          · refine brnF e2 ?_
            refine run_go 3 ?_
            refine kk _ _ (by omega) ⟨by rw [fc_s, tB_t e, ← nI_1, ← nI_1], A3.tr A4, fun o' ho' e' => ?_⟩
            by_cases q2 : o' = o
            · subst q2; exact e2
            · exact hp o' (by omega) e'
        · have := fb_lt g1 e
          rw [p9_n e]
          refine brnF (by rw [show (-1000000 : Int32) = nONE from rfl]; exact (by simp (disch := first | omega | (simp (disch := omega) only [nI_toInt, Int32.reduceToInt, i_sub, i_add, i_mul]; omega)) only [iNONE, i_lt, i_le, i_eq, i_in, nI_toInt, Int32.reduceToInt, i_sub, i_add, i_mul]; omega)) ?_
          refine run_go 2 ?_
          refine kk _ _ (by omega) ⟨by rw [fc_s, tB_f e, Nat.add_zero, ← nI_1], A3.tr A4, fun o' ho' e' => ?_⟩
          by_cases q2 : o' = o
          · subst q2; exact absurd e' e
          · exact hp o' (by omega) e'
    by_cases e1 : x = -1
    · refine brnT e1 ?_
      refine h _ _ (fun Q hq => ref _ Q (fun o ho _ e => ?_) (fun _ => ?_) hq)
      · have hfo := fc_le (so := so) (n := n) (tb := tb) (l := l) o
        rw [e1] at e
        exact absurd e (by simp (disch := first | omega | (simp (disch := omega) only [nI_toInt, Int32.reduceToInt, i_sub, i_add, i_mul]; omega)) only [iNONE, i_lt, i_le, i_eq, i_in, nI_toInt, Int32.reduceToInt, i_sub, i_add, i_mul]; omega)
      · rw [if_pos e1]
    · refine brnF e1 ?_
      have c1 : 0 ≤ x.toInt := by
        have : x.toInt ≠ -1 := fun z => e1 (i_eq.mpr (by rw [z]; decide))
        omega
      refine call_go (cd := k10_fittingAt) 60 rfl rfl ?_
      refine brF (by simp (disch := first | omega | (simp (disch := omega) only [nI_toInt, Int32.reduceToInt, i_sub, i_add, i_mul]; omega)) only [iNONE, i_lt, i_le, i_eq, i_in, nI_toInt, Int32.reduceToInt, i_sub, i_add, i_mul]; omega) ?_
      by_cases c2 : x.toInt < fcT so n tb l 96
      · obtain ⟨c, hc, rfl⟩ := nI_ofB (x := x) (b := fcT so n tb l 96) c1 c2
        obtain ⟨o, ho, e, eo⟩ := fc_ex 96 c hc
        refine brF (by simp (disch := first | omega | (simp (disch := omega) only [nI_toInt, Int32.reduceToInt, i_sub, i_add, i_mul]; omega)) only [M2, iNONE, i_lt, i_le, i_eq, i_in, nI_toInt, Int32.reduceToInt, i_sub, i_add, i_mul]; omega) ?_
        refine And.intro (by simp (disch := first | omega | (simp (disch := omega) only [nI_toInt, Int32.reduceToInt, i_sub, i_add, i_mul]; omega)) only [iNONE, i_lt, i_le, i_eq, i_in, nI_toInt, Int32.reduceToInt, i_sub, i_add, i_mul]; omega) ?_
        rw [nI_clamp (by omega), ← eo, V2 o ho e]
        rw [← eo] at h ref
        refine h _ _ (fun Q hq => ref _ Q (fun o' ho' e' q => ?_) (fun q => absurd rfl (q o ho e)) hq)
        have hf1 := fc_le (so := so) (n := n) (tb := tb) (l := l) o
        have hf2 := fc_le (so := so) (n := n) (tb := tb) (l := l) o'
        have q := (nI_eq (by omega) (by omega)).mp q
        have : o' = o := by
          rcases Nat.lt_trichotomy o' o with z | z | z
          · have := fc_lt (so := so) (n := n) (tb := tb) (l := l) z e'; omega
          · exact z
          · have := fc_lt (so := so) (n := n) (tb := tb) (l := l) z e; omega
        rw [this]
      · refine brT (by simp (disch := first | omega | (simp (disch := omega) only [nI_toInt, Int32.reduceToInt, i_sub, i_add, i_mul]; omega)) only [M2, iNONE, i_lt, i_le, i_eq, i_in, nI_toInt, Int32.reduceToInt, i_sub, i_add, i_mul]; omega) ?_
        refine h _ _ (fun Q hq => ref _ Q (fun o ho e q => ?_) (fun _ => by rw [if_neg e1]) hq)
        have h3 := fc_lt (so := so) (n := n) (tb := tb) (l := l) (m' := 96) ho e
        have h4 : x.toInt = fcT so n tb l o := by rw [← q, nI_toInt (by omega)]
        omega
theorem obS_lt (m : Nat) : obS so n tb l o m < 2 ^ m := stB_lt (fun q _ => by have := tB_le (P := sbP so n tb l q o); omega)
theorem obS_256 {m : Nat} (hm : m ≤ 8) : obS so n tb l o m < 256 := Nat.lt_of_lt_of_le (obS_lt m) (Nat.le_trans (Nat.pow_le_pow_right (by decide) hm) (by decide))
theorem c10_allThatBar (hy : y = nI o) (h1 : tbG μ n so wt κ tb) (h2 : lrG μ n so κ tb κ) (hW : lsW κ l) (hC : lsC μ l) (ho : o < 96) (h : Q (nI (obS so n tb l o (eN l))) 0 (0, 0) μ) : Call (d + 4) n10_allThatBar [sR 20 0, sI y] μ Q := by
  subst hy
  have hm := hW.1
  refine call_go (cd := k10_allThatBar) 4 rfl rfl ?_
  refine loopF (cd := k10_allThatBar) (d := d + 3) (Q := Q) (eN l) (fun i q => [some (sR 20 0), some (sI (nI o)), some (sI (nI (obS so n tb l o i))), some (sI q)]) (fun _ => μ) 4 ?_ (fun i hi kk => ?_)
  · refine run_go 20 ?_
    refine brT (by simp (disch := first | omega | (simp (disch := omega) only [nI_toInt, Int32.reduceToInt, i_sub, i_add, i_mul]; omega)) only [hC.1, iNONE, i_lt, i_le, i_eq, i_in, nI_toInt, Int32.reduceToInt, i_sub, i_add, i_mul]; omega) ?_
    exact h
  · have h3 := obS_256 (so := so) (n := n) (tb := tb) (l := l) (o := o) (m := i) (by omega)
    have h4 := obS_lt (so := so) (n := n) (tb := tb) (l := l) (o := o) i
    rw [show obS so n tb l o (i + 1) = obS so n tb l o i + tB (sbP so n tb l i o) * 2 ^ i from rfl] at kk
    refine run_go 4 ?_
    refine brF (by simp (disch := first | omega | (simp (disch := omega) only [nI_toInt, Int32.reduceToInt, i_sub, i_add, i_mul]; omega)) only [hC.1, iNONE, i_lt, i_le, i_eq, i_in, nI_toInt, Int32.reduceToInt, i_sub, i_add, i_mul]; omega) ?_
    refine run_go 6 ?_
    refine c10_bars rfl rfl h1 h2 hW hC hi ho (fun e => ?_) (fun e => ?_)
    · rw [tB_t e, Nat.one_mul, ← or_key i (by omega) _ h3 h4] at kk
      refine brF (by decide) ?_
      refine run_go 8 ?_
      exact kk
    · rw [tB_f e, Nat.zero_mul, Nat.add_zero (obS so n tb l o i), ← or_0 (nI (obS so n tb l o i))] at kk
      refine brT rfl ?_
      refine run_go 5 ?_
      exact kk
theorem pop_8 : pop S ≤ 8 := pop_le
theorem bq_in {f : Nat → Nat} : ∀ m, ∃ q, bqT f m = f q
  | 0 => ⟨0, rfl⟩
  | m + 1 => by
    show ∃ q, @ite Nat (btr (f (m + 1)) (bqT f m)) (Classical.propDecidable _) (f (m + 1)) (bqT f m) = f q
    by_cases e : btr (f (m + 1)) (bqT f m)
    · rw [if_pos e]; exact ⟨m + 1, rfl⟩
    · rw [if_neg e]; exact bq_in m
theorem c10_leastToTakeBack (h1 : tbG μ n so wt κ tb) (h2 : lrG μ n so κ tb κ) (hW : lsW κ l) (hC : lsC μ l) (h : Q (nI (bqT (fun o => obS so n tb l o (eN l)) 95)) 0 (0, 0) μ) : Call (d + 5) n10_leastToTakeBack [sR 20 0] μ Q := by
  have hm := hW.1
  refine call_go (cd := k10_leastToTakeBack) 6 rfl rfl ?_
  refine c10_allThatBar (o := 0) rfl h1 h2 hW hC (by decide) ?_
  have bl : ∀ m, bqT (fun o => obS so n tb l o (eN l)) m < 256 := fun m => by
    obtain ⟨q, e⟩ := bq_in (f := fun o => obS so n tb l o (eN l)) m
    rw [e]; exact obS_256 hm
  refine loopC (cd := k10_leastToTakeBack) (d := d + 4) (Q := Q) 95 (fun i ls μ' => ls = [some (sR 20 0), some (sI (nI (bqT (fun o => obS so n tb l o (eN l)) i))), some (sI (nI (i + 1)))] ∧ μ' = μ) 8 0 _ _ (Nat.zero_le _) ⟨rfl, rfl⟩ ?_
  rintro i ls μ1 hi ⟨rfl, rfl⟩ kk
  refine run_go 3 ?_
  by_cases q : i = 95
  · subst q
    refine brT (by simp (disch := first | omega | (simp (disch := omega) only [nI_toInt, Int32.reduceToInt, i_sub, i_add, i_mul]; omega)) only [iNONE, i_lt, i_le, i_eq, i_in, nI_toInt, Int32.reduceToInt, i_sub, i_add, i_mul]; omega) ?_
    refine run_go 10 ?_
    exact h
  · refine brF (by simp (disch := first | omega | (simp (disch := omega) only [nI_toInt, Int32.reduceToInt, i_sub, i_add, i_mul]; omega)) only [iNONE, i_lt, i_le, i_eq, i_in, nI_toInt, Int32.reduceToInt, i_sub, i_add, i_mul]; omega) ?_
    refine run_go 12 ?_
    refine c10_allThatBar (o := i + 1) rfl h1 h2 hW hC (by omega) ?_
    have B := bl i
    have S := obS_256 (so := so) (n := n) (tb := tb) (l := l) (o := i + 1) hm
    refine cJ_bits rfl S ?_
    refine cJ_bits rfl B ?_
    have kk3 := fun v => run_sub (kk [some (sR 20 0), some (sI (nI (bqT (fun o => obS so n tb l o (eN l)) (i + 1)))), some (sI (nI (i + 1 + 1)))] μ1 (by omega) ⟨rfl, rfl⟩) (subL.app _ [some (sI (nI (obS so n tb l (i + 1) (eN l)))), some (sI v)])
    rw [show bqT (fun o => obS so n tb l o (eN l)) (i + 1) = @ite Nat (btr (obS so n tb l (i + 1) (eN l)) (bqT (fun o => obS so n tb l o (eN l)) i)) (Classical.propDecidable _) (obS so n tb l (i + 1) (eN l)) (bqT (fun o => obS so n tb l o (eN l)) i) from rfl, ← nI_1 (i + 1)] at kk3
    generalize bqT (fun o => obS so n tb l o (eN l)) i = B0 at B kk3 ⊢
    generalize obS so n tb l (i + 1) (eN l) = S0 at S kk3 ⊢
    have p1 := pop_8 (S := S0)
    have p2 := pop_8 (S := B0)
    unfold btr at kk3
    by_cases c1 : pop S0 < pop B0
    · rw [if_pos (Or.inl c1)] at kk3
      refine brT (by simp (disch := first | omega | (simp (disch := omega) only [nI_toInt, Int32.reduceToInt, i_sub, i_add, i_mul]; omega)) only [iNONE, i_lt, i_le, i_eq, i_in, nI_toInt, Int32.reduceToInt, i_sub, i_add, i_mul]; omega) ?_
      refine run_go 4 ?_
      exact kk3 _
    · refine brF (by simp (disch := first | omega | (simp (disch := omega) only [nI_toInt, Int32.reduceToInt, i_sub, i_add, i_mul]; omega)) only [iNONE, i_lt, i_le, i_eq, i_in, nI_toInt, Int32.reduceToInt, i_sub, i_add, i_mul]; omega) ?_
      refine run_go 2 ?_
      by_cases c2 : pop S0 = pop B0
      · refine brnT (by simp (disch := first | omega | (simp (disch := omega) only [nI_toInt, Int32.reduceToInt, i_sub, i_add, i_mul]; omega)) only [iNONE, i_lt, i_le, i_eq, i_in, nI_toInt, Int32.reduceToInt, i_sub, i_add, i_mul]; omega) ?_
        refine run_go 3 ?_
        by_cases c3 : S0 < B0
        · rw [if_pos (Or.inr ⟨c2, c3⟩)] at kk3
          refine brF (by simp (disch := first | omega | (simp (disch := omega) only [nI_toInt, Int32.reduceToInt, i_sub, i_add, i_mul]; omega)) only [iNONE, i_lt, i_le, i_eq, i_in, nI_toInt, Int32.reduceToInt, i_sub, i_add, i_mul]; omega) ?_
          refine run_go 4 ?_
          exact kk3 _
        · rw [if_neg (by omega)] at kk3
          refine brT (by simp (disch := first | omega | (simp (disch := omega) only [nI_toInt, Int32.reduceToInt, i_sub, i_add, i_mul]; omega)) only [iNONE, i_lt, i_le, i_eq, i_in, nI_toInt, Int32.reduceToInt, i_sub, i_add, i_mul]; omega) ?_
          refine run_go 2 ?_
          exact kk3 _
      · rw [if_neg (by omega)] at kk3
        refine brnF (by simp (disch := first | omega | (simp (disch := omega) only [nI_toInt, Int32.reduceToInt, i_sub, i_add, i_mul]; omega)) only [iNONE, i_lt, i_le, i_eq, i_in, nI_toInt, Int32.reduceToInt, i_sub, i_add, i_mul]; omega) ?_
        refine run_go 2 ?_
        exact kk3 _
noncomputable def rqT (f : Nat → Nat) (A : Nat) : Nat → Nat
  | 0 => A
  | m + 1 => @ite Nat (btr (f m) (rqT f A m)) (Classical.propDecidable _) (f m) (rqT f A m)
theorem sumN_ge {f g : Nat → Nat} : ∀ {m : Nat}, (∀ q, q < m → f q ≤ g q) → sumN f m ≤ sumN g m ∧ (sumN f m = sumN g m → ∀ q, q < m → f q = g q)
  | 0, _ => ⟨Nat.le_refl _, fun _ q hq => absurd hq (Nat.not_lt_zero q)⟩
  | m + 1, h => by
    have ih := sumN_ge (f := f) (g := g) (m := m) (fun q hq => h q (by omega))
    have h2 := h m (by omega)
    show sumN f m + f m ≤ sumN g m + g m ∧ (sumN f m + f m = sumN g m + g m → _)
    refine ⟨by omega, fun e q hq => ?_⟩
    by_cases e2 : q = m
    · subst e2; omega
    · exact ih.2 (by omega) q (by omega)
theorem rq_bq (hW : lsW κ l) : ∀ m, rqT (fun o => obS so n tb l o (eN l)) (stB (eD l) (eN l)) (m + 1) = bqT (fun o => obS so n tb l o (eN l)) m
  | 0 => by
    have hm := hW.1
    have hd : ∀ q, q < eN l → eD l q < 2 := fun q hq => (hW.2 q hq).2.2.2.2
    have ht : ∀ q, q < eN l → tB (sbP so n tb l q 0) < 2 := fun q _ => by have := tB_le (P := sbP so n tb l q 0); omega
    have le : ∀ q, q < eN l → tB (sbP so n tb l q 0) ≤ eD l q := fun q hq => by
      by_cases e : sbP so n tb l q 0
      · rw [tB_t e, e.1]; exact Nat.le_refl _
      · rw [tB_f e]; exact Nat.zero_le _
    have sg := sumN_ge le
    have p1 : pop (obS so n tb l 0 (eN l)) = sumN (fun q => tB (sbP so n tb l q 0)) (eN l) := pop_stB hm ht
    have p2 : pop (stB (eD l) (eN l)) = sumN (eD l) (eN l) := pop_stB hm hd
    show @ite Nat (btr (obS so n tb l 0 (eN l)) (stB (eD l) (eN l))) (Classical.propDecidable _) (obS so n tb l 0 (eN l)) (stB (eD l) (eN l)) = obS so n tb l 0 (eN l)
    by_cases e : btr (obS so n tb l 0 (eN l)) (stB (eD l) (eN l))
    · rw [if_pos e]
    · rw [if_neg e]
      unfold btr at e
      rw [p1, p2] at e
      have e2 := sg.2 (by omega)
      exact (sumN_eq (fun q hq => by dsimp only; rw [e2 q hq])).symm
  | m + 1 => by
    have ih := rq_bq hW m
    show @ite Nat (btr _ (rqT (fun o => obS so n tb l o (eN l)) (stB (eD l) (eN l)) (m + 1))) (Classical.propDecidable _) _ (rqT (fun o => obS so n tb l o (eN l)) (stB (eD l) (eN l)) (m + 1)) = @ite Nat (btr _ (bqT (fun o => obS so n tb l o (eN l)) m)) (Classical.propDecidable _) _ (bqT (fun o => obS so n tb l o (eN l)) m)
    rw [ih]
theorem op_quarrel (hI : INV ξ μ) (h : ∀ v μ', opQ ξ (d + 20) n12_quarrel [sR 41 0] v μ' → Q v 0 (0, 0) μ') : Call (d + 20) n11_quarrel [sR 0 0] μ Q := by
  refine call_go (cd := k11_quarrel) 60 rfl rfl ?_
  refine c7_learnI hI (fun μ1 n so wt κ tb h1 h2 h3 hI1 => ?_)
  obtain ⟨l, g1, g2, g3⟩ := h3.lg
  have hκ := h1.2.2.1
  have hm := g1.1
  refine c10_leastToTakeBack h1 h2 g1 g2 ?_
  refine h _ _ (fun Q hq => ?_)
  have hd : ∀ q, q < eN l → eD l q < 2 := fun q hq => (g1.2 q hq).2.2.2.2
  have G := rf_of h1 g3
  have rl : ∀ m, rqT (fun o => obS so n tb l o (eN l)) (stB (eD l) (eN l)) m < 256 := fun m => by
    cases m with
    | zero => exact stB_256 hm hd
    | succ m =>
      rw [rq_bq g1]
      obtain ⟨q, e⟩ := bq_in (f := fun o => obS so n tb l o (eN l)) m
      rw [e]; exact obS_256 hm
  rw [← rq_bq g1] at hq
  refine call_go (cd := k12_quarrel) 10 rfl rfl ?_
  refine r12_standing2 g1 G.2.2 ?_
  refine loopC (cd := k12_quarrel) (d := d + 19) (Q := Q) 96 (fun o ls μ' => ls = [some (sR 41 0), some (sI (nI (stB (eD l) (eN l)))), some (sI (nI (rqT (fun o => obS so n tb l o (eN l)) (stB (eD l) (eN l)) o))), some (sI (nI o))] ∧ agK (m_i μ1 41 0 0 0) μ') 14 0 _ _ (Nat.zero_le _) ⟨rfl, agK.rf⟩ ?_
  rintro o ls μ2 ho ⟨rfl, A2⟩ kk
  refine run_go 3 ?_
  by_cases q : o = 96
  · subst q
    refine brT (by simp (disch := first | omega | (simp (disch := omega) only [nI_toInt, Int32.reduceToInt, i_sub, i_add, i_mul]; omega)) only [iNONE, i_lt, i_le, i_eq, i_in, nI_toInt, Int32.reduceToInt, i_sub, i_add, i_mul]; omega) ?_
    refine run_go 10 ?_
    exact hq _ (hI1.th.K A2)
  · refine brF (by simp (disch := first | omega | (simp (disch := omega) only [nI_toInt, Int32.reduceToInt, i_sub, i_add, i_mul]; omega)) only [iNONE, i_lt, i_le, i_eq, i_in, nI_toInt, Int32.reduceToInt, i_sub, i_add, i_mul]; omega) ?_
    refine run_go 4 ?_
    refine loopC (cd := k12_quarrel) (d := d + 19) (Q := Q) (eN l) (fun i ls μ' => ls = [some (sR 41 0), some (sI (nI (stB (eD l) (eN l)))), some (sI (nI (rqT (fun o => obS so n tb l o (eN l)) (stB (eD l) (eN l)) o))), some (sI (nI o)), some (sI (nI (obS so n tb l o i))), some (sI (nI i))] ∧ agK (m_i μ1 41 0 0 0) μ') 26 0 _ _ (Nat.zero_le _) ⟨rfl, A2⟩ ?_
    rintro i ls μ3 hi ⟨rfl, A3⟩ kk2
    have G3 := G.K hκ A3
    have L3 := G3.2.2.1
    refine run_go 4 ?_
    by_cases q2 : i = eN l
    · subst q2
      refine brT (by simp (disch := first | omega | (simp (disch := omega) only [nI_toInt, Int32.reduceToInt, i_sub, i_add, i_mul]; omega)) only [L3, iNONE, i_lt, i_le, i_eq, i_in, nI_toInt, Int32.reduceToInt, i_sub, i_add, i_mul]; omega) ?_
      have kk3 := run_sub (kk [some (sR 41 0), some (sI (nI (stB (eD l) (eN l)))), some (sI (nI (rqT (fun o => obS so n tb l o (eN l)) (stB (eD l) (eN l)) (o + 1)))), some (sI (nI (o + 1)))] μ3 (by omega) ⟨rfl, A3⟩) (subL.app _ [some (sI (nI (obS so n tb l o (eN l)))), some (sI (nI (eN l)))])
      rw [show rqT (fun o => obS so n tb l o (eN l)) (stB (eD l) (eN l)) (o + 1) = @ite Nat (btr (obS so n tb l o (eN l)) (rqT (fun o => obS so n tb l o (eN l)) (stB (eD l) (eN l)) o)) (Classical.propDecidable _) (obS so n tb l o (eN l)) (rqT (fun o => obS so n tb l o (eN l)) (stB (eD l) (eN l)) o) from rfl, ← nI_1 o] at kk3
      have B := rl o
      have S := obS_256 (so := so) (n := n) (tb := tb) (l := l) (o := o) hm
      generalize rqT (fun o => obS so n tb l o (eN l)) (stB (eD l) (eN l)) o = B0 at B kk3 ⊢
      generalize obS so n tb l o (eN l) = S0 at S kk3 ⊢
      have p1 := pop_8 (S := S0)
      have p2 := pop_8 (S := B0)
      unfold btr at kk3
      refine run_go 5 ?_
      refine r12_bits rfl S ?_
      refine r12_bits rfl B ?_
      by_cases c1 : pop S0 < pop B0
      · rw [if_pos (Or.inl c1)] at kk3
        refine brT (by simp (disch := first | omega | (simp (disch := omega) only [nI_toInt, Int32.reduceToInt, i_sub, i_add, i_mul]; omega)) only [iNONE, i_lt, i_le, i_eq, i_in, nI_toInt, Int32.reduceToInt, i_sub, i_add, i_mul]; omega) ?_
        refine run_go 5 ?_
        exact kk3
      · refine brF (by simp (disch := first | omega | (simp (disch := omega) only [nI_toInt, Int32.reduceToInt, i_sub, i_add, i_mul]; omega)) only [iNONE, i_lt, i_le, i_eq, i_in, nI_toInt, Int32.reduceToInt, i_sub, i_add, i_mul]; omega) ?_
        refine run_go 5 ?_
        refine r12_bits rfl S ?_
        refine r12_bits rfl B ?_
        by_cases c2 : pop S0 = pop B0
        · refine brnT (by rw [c2]) ?_
          refine run_go 3 ?_
          by_cases c3 : S0 < B0
          · rw [if_pos (Or.inr ⟨c2, c3⟩)] at kk3
            refine brF (by simp (disch := first | omega | (simp (disch := omega) only [nI_toInt, Int32.reduceToInt, i_sub, i_add, i_mul]; omega)) only [iNONE, i_lt, i_le, i_eq, i_in, nI_toInt, Int32.reduceToInt, i_sub, i_add, i_mul]; omega) ?_
            refine run_go 5 ?_
            exact kk3
          · rw [if_neg (by omega)] at kk3
            refine brT (by simp (disch := first | omega | (simp (disch := omega) only [nI_toInt, Int32.reduceToInt, i_sub, i_add, i_mul]; omega)) only [iNONE, i_lt, i_le, i_eq, i_in, nI_toInt, Int32.reduceToInt, i_sub, i_add, i_mul]; omega) ?_
            refine run_go 4 ?_
            exact kk3
        · rw [if_neg (by omega)] at kk3
          refine brnF (by simp (disch := first | omega | (simp (disch := omega) only [nI_toInt, Int32.reduceToInt, i_sub, i_add, i_mul]; omega)) only [iNONE, i_lt, i_le, i_eq, i_in, nI_toInt, Int32.reduceToInt, i_sub, i_add, i_mul]; omega) ?_
          refine run_go 4 ?_
          exact kk3
    · have hi' : i < eN l := by omega
      have hdi := hd i hi'
      have h3 := obS_256 (so := so) (n := n) (tb := tb) (l := l) (o := o) (m := i) (by omega)
      have h4 := obS_lt (so := so) (n := n) (tb := tb) (l := l) (o := o) i
      have kk3 := fun m A => kk2 [some (sR 41 0), some (sI (nI (stB (eD l) (eN l)))), some (sI (nI (rqT (fun o => obS so n tb l o (eN l)) (stB (eD l) (eN l)) o))), some (sI (nI o)), some (sI (nI (obS so n tb l o (i + 1)))), some (sI (nI (i + 1)))] m hi' ⟨rfl, A⟩
      rw [show obS so n tb l o (i + 1) = obS so n tb l o i + tB (sbP so n tb l i o) * 2 ^ i from rfl, ← nI_1 i] at kk3
      refine brF (by simp (disch := first | omega | (simp (disch := omega) only [nI_toInt, Int32.reduceToInt, i_sub, i_add, i_mul]; omega)) only [L3, iNONE, i_lt, i_le, i_eq, i_in, nI_toInt, Int32.reduceToInt, i_sub, i_add, i_mul]; omega) ?_
      refine run_go 8 ?_
      by_cases e : eD l i = 1
      · refine brnT (by rw [bit_sd g1 hi', e]; rfl) ?_
        refine run_go 5 ?_
        refine r12_isBarring rfl rfl hκ h1.2.2.2.2.2.1 G3 g1 hi' (by omega) (fun e2 μ4 A4 => ?_) (fun e2 μ4 A4 => ?_)
        · rw [tB_t ⟨e, e2⟩, Nat.one_mul, ← or_key i (by omega) _ h3 h4] at kk3
          refine brF (by decide) ?_
          refine run_go 8 ?_
          exact kk3 _ (A3.tr A4)
        · rw [tB_f (fun z => e2 z.2), Nat.zero_mul, Nat.add_zero (obS so n tb l o i), ← or_0 (nI (obS so n tb l o i))] at kk3
          refine brT rfl ?_
          refine run_go 5 ?_
          exact kk3 _ (A3.tr A4)
      · rw [tB_f (fun z => e z.1), Nat.zero_mul, Nat.add_zero (obS so n tb l o i), ← or_0 (nI (obS so n tb l o i))] at kk3
        refine brnF (by rw [bit_sd g1 hi', show eD l i = 0 by omega]; decide) ?_
        refine run_go 5 ?_
        exact kk3 _ A3
end OP
