/-! lessons are told and taken back -/
abbrev lT : Type := Nat × (Nat → Nat) × (Nat → Nat) × (Nat → Nat) × (Nat → Nat) × (Nat → Nat)
abbrev eN (q' : lT) : Nat := q'.1
abbrev eS (q' : lT) : Nat → Nat := q'.2.1
abbrev eE (q' : lT) : Nat → Nat := q'.2.2.1
abbrev eO (q' : lT) : Nat → Nat := q'.2.2.2.1
abbrev eH (q' : lT) : Nat → Nat := q'.2.2.2.2.1
abbrev eD (q' : lT) : Nat → Nat := q'.2.2.2.2.2
def lsW (κ : Nat) (l : lT) : Prop := eN l ≤ 8 ∧ ∀ j, j < eN l → eS l j < κ ∧ eE l j < κ ∧ eO l j < 2 ∧ eH l j < 10 ∧ eD l j < 2
def lsC (μ : sM) (l : lT) : Prop := μ.1 20 0 8 = nI (eN l) ∧ ∀ j, j < eN l → μ.1 21 0 j = nI (eS l j) ∧ μ.1 22 0 j = nI (eE l j) ∧ μ.1 23 0 j = nI (eO l j) ∧ μ.1 24 0 j = nI (eH l j) ∧ μ.1 25 0 j = nI (eD l j)
def lsR (μ : sM) (l : lT) : Prop := μ.1 41 0 8 = nI (eN l) ∧ (∀ j, j < eN l → μ.1 46 0 j = nI (eS l j) ∧ μ.1 47 0 j = nI (eE l j) ∧ μ.1 48 0 j = nI (eO l j) ∧ μ.1 49 0 j = nI (eH l j) ∧ μ.1 50 0 j = nI (1 - eD l j)) ∧ ∀ j, eN l ≤ j → j < 8 → μ.1 50 0 j = 0
def okLs (κ : Nat) (x y z w : Int32) : Prop := (∃ a, a < κ ∧ x = nI a) ∧ (∃ b, b < κ ∧ y = nI b) ∧ (∃ c, c < 2 ∧ z = nI c) ∧ ∃ e, e < 10 ∧ w = nI e
def apL (l : lT) (a b c e : Nat) : lT := (eN l + 1, up1 (eS l) (eN l) a, up1 (eE l) (eN l) b, up1 (eO l) (eN l) c, up1 (eH l) (eN l) e, up1 (eD l) (eN l) 1)
def tN (x : Int32) : Nat := x.toInt.toNat
theorem tN_nI {a : Nat} (h : a < 1000) : tN (nI a) = a := by
  unfold tN
  rw [nI_toInt (by omega)]
  exact Int.toNat_natCast a
/-- what telling a lesson does, and answers -/
noncomputable def tch (κ : Nat) (l : lT) (x y z w : Int32) : lT := @ite lT (okLs κ x y z w ∧ eN l < 8) (Classical.propDecidable _) (apL l (tN x) (tN y) (tN z) (tN w)) l
noncomputable def tcv (κ : Nat) (l : lT) (x y z w : Int32) : Int32 := @ite Int32 (okLs κ x y z w) (Classical.propDecidable _) (if eN l < 8 then nI (eN l) else -1000003) (-1000001)
def fLc (a _ k : Nat) : Prop := ¬ (a = 20 ∧ k = 8) ∧ ¬ (21 ≤ a ∧ a ≤ 25)
def fLr (a _ k : Nat) : Prop := ¬ (a = 41 ∧ k = 8) ∧ ¬ (46 ≤ a ∧ a ≤ 50)
section OP
variable {d n k c s a b r u o i rel κ lr t p lm S e : Nat} {l : lT} {μ μ' : sM} {Q : sQ} {so wt rc st en no te sd : Nat → Nat} {T T' : tT} {tb : Nat → tT} {x y z w v : Int32} {ξ : Nat → Nat → Int32}
theorem lsG_iff : lsG μ κ lm st en no te sd ↔ lsW κ (lm, st, en, no, te, sd) ∧ lsC μ (lm, st, en, no, te, sd) ∧ lsR μ (lm, st, en, no, te, sd) := by
  constructor
  · intro h
    exact ⟨⟨h.1, h.2.2.2.1⟩, ⟨h.2.1, h.2.2.2.2.1⟩, ⟨h.2.2.1, h.2.2.2.2.2.1, h.2.2.2.2.2.2⟩⟩
  · intro h
    exact ⟨h.1.1, h.2.1.1, h.2.2.1, h.1.2, h.2.1.2, h.2.2.2.1, h.2.2.2.2⟩
theorem oth.lg (h : oth μ κ ξ) : ∃ l, lsW κ l ∧ lsC μ l ∧ lsR μ l := by
  obtain ⟨lm, st, en, no, te, sd, q⟩ := h.2.2.2.2.2.2.1
  exact ⟨(lm, st, en, no, te, sd), lsG_iff.mp q⟩
theorem lsC.fr (h : lsC μ l) (g : frm (fun a i k => ¬ fLc a i k) μ μ') : lsC μ' l := by
  refine ⟨?_, fun j hj => ?_⟩
  · rw [g 20 0 8 (by unfold fLc; omega)]; exact h.1
  · rw [g 21 0 j (by unfold fLc; omega), g 22 0 j (by unfold fLc; omega), g 23 0 j (by unfold fLc; omega), g 24 0 j (by unfold fLc; omega), g 25 0 j (by unfold fLc; omega)]; exact h.2 j hj
theorem lsR.fr (h : lsR μ l) (g : frm (fun a i k => ¬ fLr a i k) μ μ') : lsR μ' l := by
  refine ⟨?_, fun j hj => ?_, fun j hj hj' => ?_⟩
  · rw [g 41 0 8 (by unfold fLr; omega)]; exact h.1
  · rw [g 46 0 j (by unfold fLr; omega), g 47 0 j (by unfold fLr; omega), g 48 0 j (by unfold fLr; omega), g 49 0 j (by unfold fLr; omega), g 50 0 j (by unfold fLr; omega)]; exact h.2.1 j hj
  · rw [g 50 0 j (by unfold fLr; omega)]; exact h.2.2 j hj hj'
/-- lessons (and the finding) have changed, and nothing else -/
theorem oth.ls (h : oth μ κ ξ) (e : frm (fun a i k => fO a i k ∧ ¬ fL a i k ∧ ¬ fF a i k) μ μ') (hf : stG μ') (h1 : lsW κ l) (h2 : lsC μ' l) (h3 : lsR μ' l) : oth μ' κ ξ := by
  refine ⟨h.1.fr (e.sub (fun a i k z => ⟨o_S z, (by unfold fS at z; unfold fL; omega), (by unfold fS at z; unfold fF; omega)⟩)), ?_, ?_, ?_, ?_, hf, ?_, h.sc e (fun i k => ⟨o_59, (by unfold fL; omega), (by unfold fF; omega)⟩)⟩
  · obtain ⟨rc, q⟩ := h.2.1; exact ⟨rc, q.fr (e.sub (fun a i k z => ⟨o_R z, (by unfold fR at z; unfold fL; omega), (by unfold fR at z; unfold fF; omega)⟩))⟩
  · obtain ⟨a, b, c, f, q⟩ := h.2.2.1; exact ⟨a, b, c, f, q.fr (e.sub (fun a i k z => ⟨o_N z, (by unfold fN at z; unfold fL; omega), (by unfold fN at z; unfold fF; omega)⟩))⟩
  · obtain ⟨a, b, q⟩ := h.2.2.2.1; exact ⟨a, b, q.fr (e.sub (fun a i k z => ⟨o_P z, (by unfold fP at z; unfold fL; omega), (by unfold fP at z; unfold fF; omega)⟩))⟩
  · obtain ⟨a, q⟩ := h.2.2.2.2.1; exact ⟨a, q.fr (e.sub (fun a i k z => ⟨o_X z, (by unfold fX at z; unfold fL; omega), (by unfold fX at z; unfold fF; omega)⟩))⟩
  · obtain ⟨lm, st, en, no, te, sd⟩ := l
    exact ⟨lm, st, en, no, te, sd, lsG_iff.mpr ⟨h1, h2, h3⟩⟩
def fLF (a i k : Nat) : Prop := (fT a i k ∨ fO a i k) ∧ ¬ fL a i k ∧ ¬ fF a i k
theorem inv_ls (h1 : tbG μ n so wt κ tb) (h2 : lrG μ n so κ tb lr) (h3 : oth μ κ ξ) (e : frm fLF μ μ') (e2 : μ'.2 = μ.2) (hf : stG μ') (g1 : lsW κ l) (g2 : lsC μ' l) (g3 : lsR μ' l) : INV ξ μ' :=
  ⟨n, so, wt, κ, tb, lr, h1.fr (e.sub (fun a i k z => ⟨Or.inl z, (by unfold fT at z; unfold fL; omega), (by unfold fT at z; unfold fF; omega)⟩)), h2.fr (e.sub (fun a i k z => ⟨Or.inl z, (by unfold fT at z; unfold fL; omega), (by unfold fT at z; unfold fF; omega)⟩)) e2, h3.ls (e.sub (fun a i k z => ⟨Or.inr z.1, z.2⟩)) hf g1 g2 g3⟩
theorem tch_y (h : okLs κ x y z w) (hn : eN l < 8) : tch κ l x y z w = apL l (tN x) (tN y) (tN z) (tN w) ∧ tcv κ l x y z w = nI (eN l) := ⟨if_pos ⟨h, hn⟩, (if_pos h).trans (if_pos hn)⟩
theorem tch_f (h : okLs κ x y z w) (hn : ¬ eN l < 8) : tch κ l x y z w = l ∧ tcv κ l x y z w = -1000003 := ⟨if_neg (fun q => hn q.2), (if_pos h).trans (if_neg hn)⟩
theorem tch_n (h : ¬ okLs κ x y z w) : tch κ l x y z w = l ∧ tcv κ l x y z w = -1000001 := ⟨if_neg (fun q => h q.1), if_neg h⟩
theorem tch_w (hκ : κ ≤ 8) (h : lsW κ l) : lsW κ (tch κ l x y z w) := by
  by_cases hk : okLs κ x y z w
  · by_cases hn : eN l < 8
    · rw [(tch_y hk hn).1]
      obtain ⟨⟨a, ha, rfl⟩, ⟨b, hb, rfl⟩, ⟨c, hc, rfl⟩, e, he, rfl⟩ := hk
      rw [tN_nI (by omega), tN_nI (by omega), tN_nI (by omega), tN_nI (by omega)]
      refine ⟨hn, fun j hj => ?_⟩
      have hj : j < eN l + 1 := hj
      show up1 (eS l) (eN l) a j < κ ∧ up1 (eE l) (eN l) b j < κ ∧ up1 (eO l) (eN l) c j < 2 ∧ up1 (eH l) (eN l) e j < 10 ∧ up1 (eD l) (eN l) 1 j < 2
      by_cases q : j = eN l
      · subst q
        rw [up1_s, up1_s, up1_s, up1_s, up1_s]
        exact ⟨ha, hb, hc, he, by decide⟩
      · rw [up1_n q, up1_n q, up1_n q, up1_n q, up1_n q]
        exact h.2 j (by omega)
    · rw [(tch_f hk hn).1]; exact h
  · rw [(tch_n hk).1]; exact h
theorem c10_takes (hκ : κ ≤ 8) (hk : μ.1 16 0 5 = nI κ) (h1 : okLs κ x y z w → Q 1 0 (0, 0) μ) (h2 : ¬ okLs κ x y z w → Q 0 0 (0, 0) μ) : Call (d + 2) n10_takes [sR 20 0, sI x, sI y, sI z, sI w] μ Q := by
  refine call_go (cd := k10_takes) 60 rfl rfl ?_
  refine c7_has hκ hk (fun a ha e1 => ?_) (fun e1 => ?_)
  · refine brF (by decide) ?_
    refine c7_has hκ hk (fun b hb e2 => ?_) (fun e2 => ?_)
    · refine brF (by decide) ?_
      refine c11_within (b := 2) rfl (by decide) (fun c hc e3 => ?_) (fun e3 => ?_)
      · refine brF (by decide) ?_
        refine c11_within (b := 10) rfl (by decide) (fun e he e4 => ?_) (fun e4 => ?_)
        · refine brF (by decide) ?_
          exact ⟨Or.inr rfl, h1 ⟨⟨a, ha, e1⟩, ⟨b, hb, e2⟩, ⟨c, hc, e3⟩, e, he, e4⟩⟩
        · refine brT rfl ?_
          refine ⟨Or.inl rfl, h2 (fun ⟨_, _, _, e, he, q⟩ => ?_)⟩
          rw [q, nI_toInt (by omega)] at e4; omega
      · refine brT rfl ?_
        refine ⟨Or.inl rfl, h2 (fun ⟨_, _, ⟨e, he, q⟩, _⟩ => ?_)⟩
        rw [q, nI_toInt (by omega)] at e3; omega
    · refine brT rfl ?_
      refine ⟨Or.inl rfl, h2 (fun ⟨_, ⟨e, he, q⟩, _⟩ => ?_)⟩
      rw [q, nI_toInt (by omega)] at e2; omega
  · refine brT rfl ?_
    refine ⟨Or.inl rfl, h2 (fun ⟨⟨e, he, q⟩, _⟩ => ?_)⟩
    rw [q, nI_toInt (by omega)] at e1; omega
theorem c11_lesson (hκ : κ ≤ 8) (hk : μ.1 16 0 5 = nI κ) (hW : lsW κ l) (hC : lsC μ l) (h : ∀ μ', lsC μ' (tch κ l x y z w) → frm fLc μ μ' → μ'.2 = μ.2 → Q (tcv κ l x y z w) 0 (0, 0) μ') : Call (d + 3) n11_lesson [sR 0 0, sI x, sI y, sI z, sI w] μ Q := by
  have hm := hW.1
  refine call_go (cd := k11_lesson) 60 rfl rfl ?_
  refine c10_takes hκ hk (fun e => ?_) (fun e => ?_)
  · refine brnF (by decide) ?_
    refine call_go (cd := k10_isFull) 60 rfl rfl ?_
    by_cases hn : eN l < 8
    · rw [(tch_y e hn).1, (tch_y e hn).2] at h
      refine brT (by simp (disch := first | omega | (simp (disch := omega) only [nI_toInt, Int32.reduceToInt, i_sub, i_add, i_mul]; omega)) only [hC.1, iNONE, i_lt, i_le, i_eq, i_in, nI_toInt, Int32.reduceToInt, i_sub, i_add, i_mul]; omega) ?_
      refine ⟨Or.inl rfl, ?_⟩
      refine brT rfl ?_
      obtain ⟨⟨a, ha, rfl⟩, ⟨b, hb, rfl⟩, ⟨c, hc, rfl⟩, e, he, rfl⟩ := e
      rw [tN_nI (by omega), tN_nI (by omega), tN_nI (by omega), tN_nI (by omega)] at h
      refine call_go (cd := k10_add) 60 rfl rfl ?_
      refine call_go (cd := k10_isFull) 60 rfl rfl ?_
      refine brT (by simp (disch := first | omega | (simp (disch := omega) only [nI_toInt, Int32.reduceToInt, i_sub, i_add, i_mul]; omega)) only [hC.1, iNONE, i_lt, i_le, i_eq, i_in, nI_toInt, Int32.reduceToInt, i_sub, i_add, i_mul]; omega) ?_
      refine ⟨Or.inl rfl, ?_⟩
      refine brT rfl ?_
      have C0 := hC.1
      refine And.intro (by rw [C0]; exact vp_in_nI (by omega) (by decide)) ?_
      have C1 : (m_i μ 21 0 (eN l) (nI a)).1 20 0 8 = nI (eN l) := (mi_t (by decide)).trans C0
      rw [C0, nI_clamp (by omega)]
      refine And.intro (by rw [C1]; exact vp_in_nI (by omega) (by decide)) ?_
      rw [C1, nI_clamp (by omega)]
      have C2 : (m_i (m_i μ 21 0 (eN l) (nI a)) 22 0 (eN l) (nI b)).1 20 0 8 = nI (eN l) := (mi_t (by decide)).trans C1
      refine And.intro (by rw [C2]; exact vp_in_nI (by omega) (by decide)) ?_
      rw [C2, nI_clamp (by omega)]
      have C3 : (m_i (m_i (m_i μ 21 0 (eN l) (nI a)) 22 0 (eN l) (nI b)) 23 0 (eN l) (nI c)).1 20 0 8 = nI (eN l) := (mi_t (by decide)).trans C2
      refine And.intro (by rw [C3]; exact vp_in_nI (by omega) (by decide)) ?_
      rw [C3, nI_clamp (by omega)]
      have C4 : (m_i (m_i (m_i (m_i μ 21 0 (eN l) (nI a)) 22 0 (eN l) (nI b)) 23 0 (eN l) (nI c)) 24 0 (eN l) (nI e)).1 20 0 8 = nI (eN l) := (mi_t (by decide)).trans C3
      refine And.intro (by rw [C4]; exact vp_in_nI (by omega) (by decide)) ?_
      rw [C4, nI_clamp (by omega)]
      have C5 : (m_i (m_i (m_i (m_i (m_i μ 21 0 (eN l) (nI a)) 22 0 (eN l) (nI b)) 23 0 (eN l) (nI c)) 24 0 (eN l) (nI e)) 25 0 (eN l) (vp_nar .boolean 1)).1 20 0 8 = nI (eN l) := (mi_t (by decide)).trans C4
      generalize hM : m_i (m_i (m_i (m_i (m_i μ 21 0 (eN l) (nI a)) 22 0 (eN l) (nI b)) 23 0 (eN l) (nI c)) 24 0 (eN l) (nI e)) 25 0 (eN l) (vp_nar .boolean 1) = M at C5 ⊢
      show Q ((m_i M 20 0 8 (M.1 20 0 8 + 1)).1 20 0 8 - 1) 0 (0, 0) (m_i M 20 0 8 (M.1 20 0 8 + 1))
      rw [C5, mi_s, nI_1, show (1 : Int32) = nI 1 from rfl, nI_sub (by omega), Nat.add_sub_cancel]
      subst hM
      refine h _ ⟨mi_s, fun j hj => ?_⟩ ?_ rfl
      · have hj : j < eN l + 1 := hj
        show _ = nI (up1 (eS l) (eN l) a j) ∧ _ = nI (up1 (eE l) (eN l) b j) ∧ _ = nI (up1 (eO l) (eN l) c j) ∧ _ = nI (up1 (eH l) (eN l) e j) ∧ _ = nI (up1 (eD l) (eN l) 1 j)
        by_cases q : j = eN l
        · subst q
          rw [up1_s, up1_s, up1_s, up1_s, up1_s]
          refine ⟨?_, ?_, ?_, ?_, ?_⟩
          · rw [mi_t (by decide), mi_t (by decide), mi_t (by decide), mi_t (by decide), mi_t (by decide), mi_s]
          · rw [mi_t (by decide), mi_t (by decide), mi_t (by decide), mi_t (by decide), mi_s]
          · rw [mi_t (by decide), mi_t (by decide), mi_t (by decide), mi_s]
          · rw [mi_t (by decide), mi_t (by decide), mi_s]
          · rw [mi_t (by decide), mi_s]; decide
        · rw [up1_n q, up1_n q, up1_n q, up1_n q, up1_n q, mi_n (by omega), mi_n (by omega), mi_n (by omega), mi_n (by omega), mi_n (by omega), mi_n (by omega), mi_n (by omega), mi_n (by omega), mi_n (by omega), mi_n (by omega), mi_n (by omega), mi_n (by omega), mi_n (by omega), mi_n (by omega), mi_n (by omega), mi_n (by omega), mi_n (by omega), mi_n (by omega), mi_n (by omega), mi_n (by omega), mi_n (by omega), mi_n (by omega), mi_n (by omega), mi_n (by omega), mi_n (by omega), mi_n (by omega), mi_n (by omega), mi_n (by omega), mi_n (by omega), mi_n (by omega)]
          exact hC.2 j (by omega)
      · exact (((((frm.rf.mi (by unfold fLc; omega)).mi (by unfold fLc; omega)).mi (by unfold fLc; omega)).mi (by unfold fLc; omega)).mi (by unfold fLc; omega)).mi (by unfold fLc; omega)
    · rw [(tch_f e hn).1, (tch_f e hn).2] at h
      refine brF (by simp (disch := first | omega | (simp (disch := omega) only [nI_toInt, Int32.reduceToInt, i_sub, i_add, i_mul]; omega)) only [hC.1, iNONE, i_lt, i_le, i_eq, i_in, nI_toInt, Int32.reduceToInt, i_sub, i_add, i_mul]; omega) ?_
      refine ⟨Or.inr rfl, ?_⟩
      refine brF (by decide) ?_
      exact h μ hC frm.rf rfl
  · rw [(tch_n e).1, (tch_n e).2] at h
    refine brnT rfl ?_
    exact h μ hC frm.rf rfl
theorem r12_teach (hκ : κ ≤ 8) (hk : μ.1 41 0 6 = nI κ) (hW : lsW κ l) (hR : lsR μ l) (h : ∀ μ', lsR μ' (tch κ l x y z w) → frm fLr μ μ' → μ'.2 = μ.2 → Q (tcv κ l x y z w) 0 (0, 0) μ') : Call (d + 3) n12_teach [sR 41 0, sI x, sI y, sI z, sI w] μ Q := by
  have hm := hW.1
  have hN := hR.1
  by_cases e : okLs κ x y z w
  · obtain ⟨⟨a, ha, rfl⟩, ⟨b, hb, rfl⟩, ⟨c, hc, rfl⟩, f, hf, rfl⟩ := e
    have e : okLs κ (nI a) (nI b) (nI c) (nI f) := ⟨⟨a, ha, rfl⟩, ⟨b, hb, rfl⟩, ⟨c, hc, rfl⟩, f, hf, rfl⟩
    refine call_go (cd := k12_teach) 4 rfl rfl ?_
    refine r12_isKept hκ hk (fun _ _ _ => ?_) (fun q => by rw [nI_toInt (by omega)] at q; omega)
    refine brF (by decide) ?_
    refine run_go 4 ?_
    refine r12_isKept hκ hk (fun _ _ _ => ?_) (fun q => by rw [nI_toInt (by omega)] at q; omega)
    refine brF (by decide) ?_
    refine run_go 6 ?_
    refine r12_inN (b := 2) (by decide) (fun _ _ _ => ?_) (fun q => by rw [nI_toInt (by omega)] at q; omega)
    refine brF (by decide) ?_
    refine run_go 6 ?_
    refine r12_inN (b := 10) (by decide) (fun _ _ _ => ?_) (fun q => by rw [nI_toInt (by omega)] at q; omega)
    refine brnF (by decide) ?_
    refine run_go 4 ?_
    by_cases hn : eN l < 8
    · rw [(tch_y e hn).1, (tch_y e hn).2, tN_nI (by omega), tN_nI (by omega), tN_nI (by omega), tN_nI (by omega)] at h
      refine brnF (by simp (disch := first | omega | (simp (disch := omega) only [nI_toInt, Int32.reduceToInt, i_sub, i_add, i_mul]; omega)) only [hN, iNONE, i_lt, i_le, i_eq, i_in, nI_toInt, Int32.reduceToInt, i_sub, i_add, i_mul]; omega) ?_
      refine run_go 19 ?_
      refine And.intro (by rw [hN]; exact vp_in_nI (by omega) (by decide)) ?_
      have C1 : (m_i μ 46 0 (eN l) (nI a)).1 41 0 8 = nI (eN l) := (mi_t (by decide)).trans hN
      rw [hN, nI_clamp (by omega)]
      refine And.intro (by rw [C1]; exact vp_in_nI (by omega) (by decide)) ?_
      rw [C1, nI_clamp (by omega)]
      have C2 : (m_i (m_i μ 46 0 (eN l) (nI a)) 47 0 (eN l) (nI b)).1 41 0 8 = nI (eN l) := (mi_t (by decide)).trans C1
      have key : ∀ M : sM, M = m_i (m_i (m_i μ 46 0 (eN l) (nI a)) 47 0 (eN l) (nI b)) 48 0 (eN l) (nI c) → Run k12_teach (Call (d + 2)) Q 93 [some (sR 41 0), some (sI (nI a)), some (sI (nI b)), some (sI (nI c)), some (sI (nI f))] [] M := by
        intro M hM
        have C3 : M.1 41 0 8 = nI (eN l) := by rw [hM]; exact (mi_t (by decide)).trans C2
        refine run_go 40 ?_
        refine And.intro (by rw [C3]; exact vp_in_nI (by omega) (by decide)) ?_
        rw [C3, nI_clamp (by omega)]
        have C4 : (m_i M 49 0 (eN l) (nI f)).1 41 0 8 = nI (eN l) := (mi_t (by decide)).trans C3
        show Q ((m_i (m_i M 49 0 (eN l) (nI f)) 41 0 8 ((m_i M 49 0 (eN l) (nI f)).1 41 0 8 + 1)).1 41 0 8 - 1) 0 (0, 0) (m_i (m_i M 49 0 (eN l) (nI f)) 41 0 8 ((m_i M 49 0 (eN l) (nI f)).1 41 0 8 + 1))
        rw [C4, mi_s, nI_1, show (1 : Int32) = nI 1 from rfl, nI_sub (by omega), Nat.add_sub_cancel]
        subst hM
        refine h _ ⟨mi_s, fun j hj => ?_, fun j hj hj' => ?_⟩ ?_ rfl
        · have hj : j < eN l + 1 := hj
          show _ = nI (up1 (eS l) (eN l) a j) ∧ _ = nI (up1 (eE l) (eN l) b j) ∧ _ = nI (up1 (eO l) (eN l) c j) ∧ _ = nI (up1 (eH l) (eN l) f j) ∧ _ = nI (1 - up1 (eD l) (eN l) 1 j)
          by_cases q : j = eN l
          · subst q
            rw [up1_s, up1_s, up1_s, up1_s, up1_s]
            refine ⟨?_, ?_, ?_, ?_, ?_⟩
            · rw [mi_t (by decide), mi_t (by decide), mi_t (by decide), mi_t (by decide), mi_s]
            · rw [mi_t (by decide), mi_t (by decide), mi_t (by decide), mi_s]
            · rw [mi_t (by decide), mi_t (by decide), mi_s]
            · rw [mi_t (by decide), mi_s]
            · rw [mi_t (by decide), mi_t (by decide), mi_t (by decide), mi_t (by decide), mi_t (by decide)]
              exact hR.2.2 (eN l) (Nat.le_refl _) hn
          · have g := hR.2.1 j (by omega)
            rw [up1_n q, up1_n q, up1_n q, up1_n q, up1_n q]
            refine ⟨?_, ?_, ?_, ?_, ?_⟩
            · rw [mi_n (by omega), mi_n (by omega), mi_n (by omega), mi_n (by omega), mi_n (by omega)]; exact g.1
            · rw [mi_n (by omega), mi_n (by omega), mi_n (by omega), mi_n (by omega), mi_n (by omega)]; exact g.2.1
            · rw [mi_n (by omega), mi_n (by omega), mi_n (by omega), mi_n (by omega), mi_n (by omega)]; exact g.2.2.1
            · rw [mi_n (by omega), mi_n (by omega), mi_n (by omega), mi_n (by omega), mi_n (by omega)]; exact g.2.2.2.1
            · rw [mi_n (by omega), mi_n (by omega), mi_n (by omega), mi_n (by omega), mi_n (by omega)]; exact g.2.2.2.2
        · have hj : eN l + 1 ≤ j := hj
          rw [mi_n (by omega), mi_n (by omega), mi_n (by omega), mi_n (by omega), mi_n (by omega)]
          exact hR.2.2 j (by omega) hj'
        · exact ((((frm.rf.mi (by unfold fLr; omega)).mi (by unfold fLr; omega)).mi (by unfold fLr; omega)).mi (by unfold fLr; omega)).mi (by unfold fLr; omega)
      rcases (by omega : c = 0 ∨ c = 1) with rfl | rfl
      · refine brnF (by decide) ?_
        refine run_go 2 ?_
        refine And.intro (by rw [C2]; exact vp_in_nI (by omega) (by decide)) ?_
        rw [C2, nI_clamp (by omega)]
        exact key _ rfl
      · refine brnT rfl ?_
        refine run_go 3 ?_
        refine And.intro (by rw [C2]; exact vp_in_nI (by omega) (by decide)) ?_
        rw [C2, nI_clamp (by omega)]
        exact key _ rfl
    · rw [(tch_f e hn).1, (tch_f e hn).2] at h
      refine brnT (by simp (disch := first | omega | (simp (disch := omega) only [nI_toInt, Int32.reduceToInt, i_sub, i_add, i_mul]; omega)) only [hN, iNONE, i_lt, i_le, i_eq, i_in, nI_toInt, Int32.reduceToInt, i_sub, i_add, i_mul]; omega) ?_
      refine run_go 10 ?_
      exact h μ hR frm.rf rfl
  · rw [(tch_n e).1, (tch_n e).2] at h
    have h := h μ hR frm.rf rfl
    refine call_go (cd := k12_teach) 80 rfl rfl ?_
    refine r12_isKept hκ hk (fun a ha e1 => ?_) (fun q => ?_)
    · refine brF (by decide) ?_
      refine r12_isKept hκ hk (fun b hb e2 => ?_) (fun q => ?_)
      · refine brF (by decide) ?_
        refine r12_inN (b := 2) (by decide) (fun c hc e3 => ?_) (fun q => ?_)
        · refine brF (by decide) ?_
          refine r12_inN (b := 10) (by decide) (fun f hf e4 => absurd ⟨⟨a, ha, e1⟩, ⟨b, hb, e2⟩, ⟨c, hc, e3⟩, f, hf, e4⟩ e) (fun q => ?_)
          refine brnT rfl ?_
          exact h
        · refine brT rfl ?_
          exact h
      · refine brT rfl ?_
        exact h
    · refine brT rfl ?_
      exact h
end OP
