/-! the shelf learns what every order gives on every kept table -/
def fQ (a i k : Nat) : Prop := ¬ (9 ≤ a ∧ a ≤ 12 ∧ i = 2) ∧ ¬ (a = 16 ∧ i = 0 ∧ k = 6)
section OP
variable {d n k c s a b r u o i rel κ lr t p : Nat} {μ μ' : sM} {Q : sQ} {so wt : Nat → Nat} {T T' : tT} {tb : Nat → tT} {x y z w v : Int32} {ξ : Nat → Nat → Int32}
theorem tbG.f5 (h : tbG μ n so wt κ tb) (e : frm fQ μ μ') : tbG μ' n so wt κ tb := by
  have := h.fr (μ' := m_i μ' 16 0 6 (μ.1 16 0 6)) (fun a i k z => by
    by_cases q : a = 16 ∧ i = 0 ∧ k = 6
    · obtain ⟨rfl, rfl, rfl⟩ := q; exact mi_s
    · rw [mi_n q]; exact e a i k ⟨by unfold fT at z; omega, q⟩)
  exact this
theorem ml_s {t k : Nat} {x : Int64} : (m_l μ t k x).2 t k = x := if_pos ⟨rfl, rfl⟩
theorem ml_n {t k a j : Nat} {x : Int64} (h : ¬ (a = t ∧ j = k)) : (m_l μ t k x).2 a j = μ.2 a j := if_neg h
theorem nI_96 (i o : Nat) : nI i * 96 + nI o = nI (96 * i + o) := by
  show nI i * nI 96 + nI o = _
  simp only [nI_mul, nI_add]
  rw [Nat.mul_comm]
def lnI (μ μ' : sM) (so : Nat → Nat) (n : Nat) (tb : Nat → tT) (i o : Nat) : Prop := μ'.1 16 0 6 = nI i ∧ caG μ' so n i tb ∧ μ'.2 18 i = Int64.ofNat (pcN (tb (i + 1)) n) ∧ (∀ o', o' < o → μ'.2 19 (96 * i + o') = ocT so n (tb (i + 1)) o') ∧ frm fQ μ μ'
theorem lnI.st {μ2 : sM} (h : lnI μ μ' so n tb i o) (h2 : ∀ a j k, ¬ (9 ≤ a ∧ a ≤ 12 ∧ j = 2) → μ2.1 a j k = μ'.1 a j k) (e2 : μ2.2 = μ'.2) (ho : o < 96) : lnI μ (m_l μ2 19 (96 * i + o) (ocT so n (tb (i + 1)) o)) so n tb i (o + 1) := by
  refine ⟨(h2 16 0 6 (by omega)).trans h.1, fun k hk => ⟨?_, fun q hq => ?_⟩, ?_, fun q hq => ?_, fun a j k z => (h2 a j k z.1).trans (h.2.2.2.2 a j k z)⟩
  · rw [ml_n (by omega), e2]; exact (h.2.1 k hk).1
  · rw [ml_n (by omega), e2]; exact (h.2.1 k hk).2 q hq
  · rw [ml_n (by omega), e2]; exact h.2.2.1
  · by_cases e : q = o
    · subst e; rw [ml_s]
    · rw [ml_n (by omega), e2]; exact h.2.2.2.1 q (by omega)
theorem c7_learn (h1 : tbG μ n so wt κ tb) (h2 : lrG μ n so κ tb lr) (h : ∀ μ', tbG μ' n so wt κ tb → lrG μ' n so κ tb κ → frm fQ μ μ' → Q 0 0 (0, 0) μ') : Call (d + 7) n7_learn [sR 16 0] μ Q := by
  have hκ := h1.2.2.1
  have hn := h1.1.2.1
  refine call_go (cd := k7_learn) 0 rfl rfl ?_
  refine loopC (cd := k7_learn) (d := d + 6) (Q := Q) κ (fun i ls μ' => ls = [some (sR 16 0)] ∧ μ'.1 16 0 6 = nI i ∧ caG μ' so n i tb ∧ frm fQ μ μ') 0 lr _ _ h2.1 ⟨rfl, h2.2.1, h2.2.2, frm.rf⟩ ?_
  rintro i ls μ1 hi ⟨rfl, L1, C1, F1⟩ kk
  have t1 := h1.f5 F1
  refine run_go 5 ?_
  by_cases q : i = κ
  · subst q
    refine brT (by simp (disch := first | omega | (simp (disch := omega) only [nI_toInt, Int32.reduceToInt, i_sub, i_add, i_mul]; omega)) only [L1, t1.2.2.2.1, iNONE, i_lt, i_le, i_eq, i_in, nI_toInt, Int32.reduceToInt, i_sub, i_add, i_mul]; omega) ?_
    refine run_go 10 ?_
    exact h _ t1 ⟨Nat.le_refl _, L1, C1⟩ F1
  · refine brF (by simp (disch := first | omega | (simp (disch := omega) only [nI_toInt, Int32.reduceToInt, i_sub, i_add, i_mul]; omega)) only [L1, t1.2.2.2.1, iNONE, i_lt, i_le, i_eq, i_in, nI_toInt, Int32.reduceToInt, i_sub, i_add, i_mul]; omega) ?_
    refine run_go 15 ?_
    refine And.intro (by simp (disch := first | omega | (simp (disch := omega) only [nI_toInt, Int32.reduceToInt, i_sub, i_add, i_mul]; omega)) only [L1, iNONE, i_lt, i_le, i_eq, i_in, nI_toInt, Int32.reduceToInt, i_sub, i_add, i_mul]; omega) ?_
    rw [L1, nI_clamp (by omega)]
    have hw := h1.2.2.2.2.2.1 (i + 1) (by omega)
    refine c9_picture hw t1.1 (t1.2.2.2.2.2.2.2.1 i (by omega)) ?_
    refine And.intro (by rw [L1]; exact vp_in_nI (by omega) (by decide)) ?_
    rw [L1, nI_clamp (by omega)]
    refine loopC (cd := k7_learn) (d := d + 6) (Q := Q) 96 (fun o ls μ' => ls = [some (sR 16 0), some (sR 8 (3 + i)), some (sI (nI o))] ∧ lnI μ μ' so n tb i o) 36 0 _ _ (Nat.zero_le _) ⟨rfl, L1, fun k hk => ⟨?_, fun o ho => ?_⟩, ml_s, fun o ho => absurd ho (Nat.not_lt_zero o), F1⟩ ?_
    · rw [ml_n (by omega)]; exact (C1 k hk).1
    · rw [ml_n (by omega)]; exact (C1 k hk).2 o ho
    rintro o ls μ2 ho ⟨rfl, I2⟩ kk2
    have L2 := I2.1
    have t2 := h1.f5 I2.2.2.2.2
    refine run_go 3 ?_
    by_cases q2 : o = 96
    · subst q2
      refine brT (by simp (disch := first | omega | (simp (disch := omega) only [nI_toInt, Int32.reduceToInt, i_sub, i_add, i_mul]; omega)) only [iNONE, i_lt, i_le, i_eq, i_in, nI_toInt, Int32.reduceToInt, i_sub, i_add, i_mul]; omega) ?_
      have kk3 := run_sub (kk [some (sR 16 0)] (m_i μ2 16 0 6 (nI (i + 1))) (by omega) ⟨rfl, mi_s, fun k hk => ?_, fun a j k z => ?_⟩) (subL.app _ [some (sR 8 (3 + i)), some (sI (nI 96))])
      · refine run_go 7 ?_
        rw [← nI_1 i, ← L2] at kk3
        exact kk3
      · by_cases e : k = i
        · subst e; exact ⟨I2.2.2.1, fun o' ho' => I2.2.2.2.1 o' ho'⟩
        · exact I2.2.1 k (by omega)
      · rw [mi_n (by have := z.2; omega)]; exact I2.2.2.2.2 a j k z
    · refine brF (by simp (disch := first | omega | (simp (disch := omega) only [nI_toInt, Int32.reduceToInt, i_sub, i_add, i_mul]; omega)) only [iNONE, i_lt, i_le, i_eq, i_in, nI_toInt, Int32.reduceToInt, i_sub, i_add, i_mul]; omega) ?_
      refine run_go 12 ?_
      refine c9_takeOver (t := 2) (by omega) (t2.2.2.2.2.2.2.2.1 i (by omega)) hn (fun μ3 a3 t3 => ?_)
      have hod := od_wf (so := so) (o := o) hw hn
      refine c3_perform rfl (by omega) hw (t2.1.ag a3) t3 (fun e μ4 a4 t4 => ?_) (fun e μ4 a4 t4 => ?_)
      · have e5 : ocT so n (tb (i + 1)) o = Int64.ofNat (pcN (odT so n (tb (i + 1)) o).2 n) := if_neg e
        have S := I2.st (μ2 := μ4) (o := o) (fun a j k z => (a4.1 a j k z).trans (a3.1 a j k z)) (a4.2.trans a3.2) (by omega)
        have L4 : μ4.1 16 0 6 = nI i := (a4.1 16 0 6 (by omega)).trans ((a3.1 16 0 6 (by omega)).trans L2)
        have q1 := hod.2.1
        have kk3 := run_sub (kk2 [some (sR 16 0), some (sR 8 (3 + i)), some (sI (nI (o + 1)))] _ (by omega) ⟨rfl, S⟩) (subL.app _ [some (sI 0)])
        rw [e5, ← nI_1] at kk3
        refine brnF (by simp (disch := first | omega | (simp (disch := omega) only [nI_toInt, Int32.reduceToInt, i_sub, i_add, i_mul]; omega)) only [iNONE, i_lt, i_le, i_eq, i_in, nI_toInt, Int32.reduceToInt, i_sub, i_add, i_mul]; omega) ?_
        refine run_go 12 ?_
        refine brT rfl ?_
        refine run_go 6 ?_
        refine c9_picture hod.1 ((t2.1.ag a3).ag a4) t4 ?_
        refine And.intro (by rw [L4, nI_96]; exact vp_in_nI (by omega) (by decide)) ?_
        rw [L4, nI_96, nI_clamp (by omega)]
        exact kk3
      · have e5 : ocT so n (tb (i + 1)) o = -1 := if_pos e
        have S := I2.st (μ2 := μ4) (o := o) (fun a j k z => (a4.1 a j k z).trans (a3.1 a j k z)) (a4.2.trans a3.2) (by omega)
        have L4 : μ4.1 16 0 6 = nI i := (a4.1 16 0 6 (by omega)).trans ((a3.1 16 0 6 (by omega)).trans L2)
        have kk3 := run_sub (kk2 [some (sR 16 0), some (sR 8 (3 + i)), some (sI (nI (o + 1)))] _ (by omega) ⟨rfl, S⟩) (subL.app _ [some (sI 1)])
        rw [e5, ← nI_1] at kk3
        refine brnT rfl ?_
        refine run_go 13 ?_
        refine brF (by decide) ?_
        refine run_go 5 ?_
        refine And.intro (by rw [L4, nI_96]; exact vp_in_nI (by omega) (by decide)) ?_
        rw [L4, nI_96, nI_clamp (by omega)]
        exact kk3
/-- the order does the lesson -/
def gvT (so : Nat → Nat) (n : Nat) (tb : Nat → tT) (l : lT) (j o : Nat) : Prop := (odT so n (tb (eS l j + 1)) o).1 ≠ 99 ∧ eqT n (odT so n (tb (eS l j + 1)) o).2 (tb (eE l j + 1))
def brP (so : Nat → Nat) (n : Nat) (tb : Nat → tT) (l : lT) (j o : Nat) : Prop := if eO l j = 1 then gvT so n tb l j o else ¬ gvT so n tb l j o
/-- the lesson stands and bars the order -/
def sbP (so : Nat → Nat) (n : Nat) (tb : Nat → tT) (l : lT) (j o : Nat) : Prop := eD l j = 1 ∧ brP so n tb l j o
theorem oc_pic {l : lT} {j : Nat} (h1 : tbG μ n so wt κ tb) (hs : eS l j < κ) (he : eE l j < κ) : ocT so n (tb (eS l j + 1)) o = Int64.ofNat (pcN (tb (eE l j + 1)) n) ↔ gvT so n tb l j o := by
  have hn := h1.1.2.1
  have w1 := h1.2.2.2.2.2.1 (eS l j + 1) (by omega)
  have w2 := h1.2.2.2.2.2.1 (eE l j + 1) (by omega)
  have hod := od_wf (so := so) (o := o) w1 hn
  have p2 := pc_62 w2 hn
  unfold gvT ocT
  by_cases e : (odT so n (tb (eS l j + 1)) o).1 = 99
  · rw [if_pos e]
    refine ⟨fun z => ?_, fun z => absurd e z.1⟩
    have h1 : (-1 : Int64).toBitVec.toNat = (Int64.ofNat (pcN (tb (eE l j + 1)) n)).toBitVec.toNat := by rw [z]
    have h2 : (Int64.ofNat (pcN (tb (eE l j + 1)) n)).toBitVec.toNat = pcN (tb (eE l j + 1)) n % 2 ^ 64 := rfl
    have h3 : (-1 : Int64).toBitVec.toNat = 2 ^ 64 - 1 := by decide
    rw [h2, h3] at h1
    omega
  · rw [if_neg e, l64_inj (pc_62 hod.1 hn) p2, pic_iff w2 hod.1 hn]
    exact ⟨fun z => ⟨e, z.sy w2⟩, fun z => z.2.sy hod.1⟩
variable {l : lT} {j : Nat}
theorem c7_outcome (hx : x = nI i) (hy : y = nI o) (h1 : tbG μ n so wt κ tb) (h2 : lrG μ n so κ tb κ) (hi : i < κ) (ho : o < 96) (h : Q 0 (ocT so n (tb (i + 1)) o) (0, 0) μ) : Call (d + 2) n7_outcome [sR 16 0, sI x, sI y] μ Q := by
  subst hx; subst hy
  have hκ := h1.2.2.1
  refine call_go (cd := k7_outcome) 40 rfl rfl ?_
  refine c7_has hκ h1.2.2.2.1 (fun _ _ _ => ?_) (fun q => by rw [nI_toInt (by omega)] at q; omega)
  refine brF (by decide) ?_
  refine c11_isWithin (b := 96) rfl rfl (by omega) (by decide) (fun _ => ?_) (fun z => by omega)
  refine brF (by decide) ?_
  (refine And.intro (by rw [nI_96]; exact vp_in_nI (by omega) (by decide)) ?_; rw [nI_96, nI_clamp (by omega)])
  rw [(h2.2.2 i hi).2 o ho]
  exact h
theorem c7_pictureOf (hx : x = nI i) (h1 : tbG μ n so wt κ tb) (h2 : lrG μ n so κ tb κ) (hi : i < κ) (h : Q 0 (Int64.ofNat (pcN (tb (i + 1)) n)) (0, 0) μ) : Call (d + 2) n7_pictureOf [sR 16 0, sI x] μ Q := by
  subst hx
  have hκ := h1.2.2.1
  refine call_go (cd := k7_pictureOf) 40 rfl rfl ?_
  refine c7_has hκ h1.2.2.2.1 (fun _ _ _ => ?_) (fun q => by rw [nI_toInt (by omega)] at q; omega)
  refine brF (by decide) ?_
  refine And.intro (by simp (disch := first | omega | (simp (disch := omega) only [nI_toInt, Int32.reduceToInt, i_sub, i_add, i_mul]; omega)) only [iNONE, i_lt, i_le, i_eq, i_in, nI_toInt, Int32.reduceToInt, i_sub, i_add, i_mul]; omega) ?_
  rw [nI_clamp (by omega), (h2.2.2 i hi).1]
  exact h
theorem c10_bars (hx : x = nI j) (hy : y = nI o) (h1 : tbG μ n so wt κ tb) (h2 : lrG μ n so κ tb κ) (hW : lsW κ l) (hC : lsC μ l) (hj : j < eN l) (ho : o < 96) (q1 : sbP so n tb l j o → Q 1 0 (0, 0) μ) (q2 : ¬ sbP so n tb l j o → Q 0 0 (0, 0) μ) : Call (d + 3) n10_bars [sR 20 0, sI x, sI y] μ Q := by
  subst hx; subst hy
  have hm := hW.1
  have w := hW.2 j hj
  have c := hC.2 j hj
  refine call_go (cd := k10_bars) 60 rfl rfl ?_
  refine c10_knows hm hC (fun _ _ _ => ?_) (fun q => by rw [nI_toInt (by omega)] at q; omega)
  refine brF (by decide) ?_
  refine And.intro (by simp (disch := first | omega | (simp (disch := omega) only [nI_toInt, Int32.reduceToInt, i_sub, i_add, i_mul]; omega)) only [iNONE, i_lt, i_le, i_eq, i_in, nI_toInt, Int32.reduceToInt, i_sub, i_add, i_mul]; omega) ?_
  rw [nI_clamp (by omega), c.2.2.2.2]
  by_cases e : eD l j = 1
  · refine brnF (by rw [e]; decide) ?_
    refine And.intro (by simp (disch := first | omega | (simp (disch := omega) only [nI_toInt, Int32.reduceToInt, i_sub, i_add, i_mul]; omega)) only [iNONE, i_lt, i_le, i_eq, i_in, nI_toInt, Int32.reduceToInt, i_sub, i_add, i_mul]; omega) ?_
    rw [nI_clamp (by omega), c.1]
    refine c7_outcome rfl rfl h1 h2 w.1 ho ?_
    refine And.intro (by simp (disch := first | omega | (simp (disch := omega) only [nI_toInt, Int32.reduceToInt, i_sub, i_add, i_mul]; omega)) only [iNONE, i_lt, i_le, i_eq, i_in, nI_toInt, Int32.reduceToInt, i_sub, i_add, i_mul]; omega) ?_
    rw [nI_clamp (by omega), c.2.1]
    refine c7_pictureOf rfl h1 h2 w.2.1 ?_
    have key := oc_pic (o := o) h1 w.1 w.2.1
    unfold sbP brP at q1 q2
    by_cases g : gvT so n tb l j o
    · refine brnT (cmp_eq.mpr (key.mpr g)) ?_
      refine And.intro (by simp (disch := first | omega | (simp (disch := omega) only [nI_toInt, Int32.reduceToInt, i_sub, i_add, i_mul]; omega)) only [iNONE, i_lt, i_le, i_eq, i_in, nI_toInt, Int32.reduceToInt, i_sub, i_add, i_mul]; omega) ?_
      rw [nI_clamp (by omega), c.2.2.1]
      by_cases e2 : eO l j = 1
      · refine brnT (by rw [e2]; rfl) ?_
        refine brnT rfl ?_
        exact ⟨Or.inr rfl, q1 ⟨e, by rw [if_pos e2]; exact g⟩⟩
      · refine brnF (by rw [show eO l j = 0 by omega]; decide) ?_
        refine brnF (by decide) ?_
        exact ⟨Or.inl rfl, q2 (fun z => by rw [if_neg e2] at z; exact z.2 g)⟩
    · refine brnF (fun z => g (key.mp (cmp_eq.mp z))) ?_
      refine And.intro (by simp (disch := first | omega | (simp (disch := omega) only [nI_toInt, Int32.reduceToInt, i_sub, i_add, i_mul]; omega)) only [iNONE, i_lt, i_le, i_eq, i_in, nI_toInt, Int32.reduceToInt, i_sub, i_add, i_mul]; omega) ?_
      rw [nI_clamp (by omega), c.2.2.1]
      by_cases e2 : eO l j = 1
      · refine brnT (by rw [e2]; rfl) ?_
        refine brnF (by decide) ?_
        exact ⟨Or.inl rfl, q2 (fun z => by rw [if_pos e2] at z; exact g z.2)⟩
      · refine brnF (by rw [show eO l j = 0 by omega]; decide) ?_
        refine brnT rfl ?_
        exact ⟨Or.inr rfl, q1 ⟨e, by rw [if_neg e2]; exact g⟩⟩
  · refine brnT (by rw [show eD l j = 0 by omega]; rfl) ?_
    exact ⟨Or.inl rfl, q2 (fun z => e z.1)⟩
noncomputable def fbT (so : Nat → Nat) (n : Nat) (tb : Nat → tT) (l : lT) (o : Nat) : Nat := fstN (fun j => sbP so n tb l j o) (eN l)
theorem c10_firstThatBars (hy : y = nI o) (h1 : tbG μ n so wt κ tb) (h2 : lrG μ n so κ tb κ) (hW : lsW κ l) (hC : lsC μ l) (ho : o < 96) (h : Q (p9 (fbT so n tb l o)) 0 (0, 0) μ) : Call (d + 4) n10_firstThatBars [sR 20 0, sI y] μ Q := by
  subst hy
  have hm := hW.1
  refine call_go (cd := k10_firstThatBars) 2 rfl rfl ?_
  refine loopS (cd := k10_firstThatBars) (d := d + 3) (Q := Q) (eN l) (fun j => sbP so n tb l j o) (fun q => [some (sR 20 0), some (sI (nI o)), some (sI q)]) μ 2 (fun hp => ?_) (fun i hi hp kk => ?_)
  · refine run_go 20 ?_
    refine brT (by simp (disch := first | omega | (simp (disch := omega) only [nI_toInt, Int32.reduceToInt, i_sub, i_add, i_mul]; omega)) only [hC.1, iNONE, i_lt, i_le, i_eq, i_in, nI_toInt, Int32.reduceToInt, i_sub, i_add, i_mul]; omega) ?_
    unfold fbT at h
    rw [fstN_no hp] at h
    exact h
  · refine run_go 4 ?_
    refine brF (by simp (disch := first | omega | (simp (disch := omega) only [nI_toInt, Int32.reduceToInt, i_sub, i_add, i_mul]; omega)) only [hC.1, iNONE, i_lt, i_le, i_eq, i_in, nI_toInt, Int32.reduceToInt, i_sub, i_add, i_mul]; omega) ?_
    refine run_go 5 ?_
    refine c10_bars rfl rfl h1 h2 hW hC hi ho (fun e => ?_) (fun e => ?_)
    · refine brF (by decide) ?_
      refine run_go 10 ?_
      unfold fbT at h
      rw [fstN_is (P := fun j => sbP so n tb l j o) e hp hi (by omega), p9_n (by omega)] at h
      exact h
    · refine brT rfl ?_
      refine run_go 2 ?_
      exact kk e
end OP
