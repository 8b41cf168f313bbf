/-! calls of sheets -/
section OP
variable {d n k c s a b r u o i rel κ : Nat} {μ μ' : sM} {Q : sQ} {la mn : Nat → Nat} {it : Nat → Int32} {x y z w v : Int32} {ξ : Nat → Nat → Int32}
theorem o_S {a i k : Nat} (z : fS a i k) : fO a i k := Or.inl z
theorem o_R {a i k : Nat} (z : fR a i k) : fO a i k := Or.inr (Or.inl z)
theorem o_N {a i k : Nat} (z : fN a i k) : fO a i k := Or.inr (Or.inr (Or.inl z))
theorem o_P {a i k : Nat} (z : fP a i k) : fO a i k := Or.inr (Or.inr (Or.inr (Or.inl z)))
theorem o_X {a i k : Nat} (z : fX a i k) : fO a i k := Or.inr (Or.inr (Or.inr (Or.inr (Or.inl z))))
theorem o_F {a i k : Nat} (z : fF a i k) : fO a i k := Or.inr (Or.inr (Or.inr (Or.inr (Or.inr (Or.inl z)))))
theorem o_L {a i k : Nat} (z : fL a i k) : fO a i k := Or.inr (Or.inr (Or.inr (Or.inr (Or.inr (Or.inr (Or.inl z))))))
theorem o_59 {i k : Nat} : fO 59 i k := Or.inr (Or.inr (Or.inr (Or.inr (Or.inr (Or.inr (Or.inr rfl))))))
theorem INV.oth (h : INV ξ μ) (e : frm fT μ μ') (e2 : μ'.2 = μ.2) (ho : ∀ κ, oth μ κ ξ → oth μ' κ ξ) : INV ξ μ' := by
  obtain ⟨n, so, wt, κ, tb, lr, h1, h2, h3⟩ := h
  exact ⟨n, so, wt, κ, tb, lr, h1.fr e, h2.fr e e2, ho κ h3⟩
theorem oth.sc {G : Nat → Nat → Nat → Prop} (h : oth μ κ ξ) (e : frm G μ μ') (hG : ∀ i k, G 59 i k) : μ'.1 59 = ξ := by
  rw [← h.2.2.2.2.2.2.2]
  funext i k
  exact e 59 i k (hG i k)
/-- all but the sheets and the finding -/
theorem oth.sh (h : oth μ κ ξ) (e : frm (fun a i k => fO a i k ∧ ¬ fS a i k ∧ ¬ fF a i k) μ μ') (h1 : SG μ') (h2 : stG μ') : oth μ' κ ξ := by
  refine ⟨h1, ?_, ?_, ?_, ?_, h2, ?_, h.sc e (fun i k => ⟨o_59, (by unfold fS; omega), (by unfold fF; omega)⟩)⟩
  · obtain ⟨rc, q⟩ := h.2.1; exact ⟨rc, q.fr (e.sub (fun a i k z => ⟨o_R z, (by unfold fR at z; unfold fS; omega), (by unfold fR at z; unfold fF; omega)⟩))⟩
  · obtain ⟨a, b, c, f, q⟩ := h.2.2.1; exact ⟨a, b, c, f, q.fr (e.sub (fun a i k z => ⟨o_N z, (by unfold fN at z; unfold fS; omega), (by unfold fN at z; unfold fF; omega)⟩))⟩
  · obtain ⟨a, b, q⟩ := h.2.2.2.1; exact ⟨a, b, q.fr (e.sub (fun a i k z => ⟨o_P z, (by unfold fP at z; unfold fS; omega), (by unfold fP at z; unfold fF; omega)⟩))⟩
  · obtain ⟨a, q⟩ := h.2.2.2.2.1; exact ⟨a, q.fr (e.sub (fun a i k z => ⟨o_X z, (by unfold fX at z; unfold fS; omega), (by unfold fX at z; unfold fF; omega)⟩))⟩
  · obtain ⟨a, b, c, f, g, j, q⟩ := h.2.2.2.2.2.2.1; exact ⟨a, b, c, f, g, j, q.fr (e.sub (fun a i k z => ⟨o_L z, (by unfold fL at z; unfold fS; omega), (by unfold fL at z; unfold fF; omega)⟩))⟩
def fS' (a i k : Nat) : Prop := (fT a i k ∨ fO a i k) ∧ ¬ fS a i k ∧ ¬ fF a i k
/-- sheets and finding have changed, and nothing else -/
theorem INV.sh (h : INV ξ μ) (e : frm fS' μ μ') (e2 : μ'.2 = μ.2) (h1 : SG μ') (h2 : stG μ') : INV ξ μ' :=
  h.oth (e.sub (fun a i k z => by simp only [fS', fT, fS, fF] at z ⊢; omega)) e2 (fun κ q => q.sh (e.sub (fun a i k z => ⟨Or.inr z.1, z.2⟩)) h1 h2)
theorem INV.sg (h : INV ξ μ) : SG μ := by
  obtain ⟨n, so, wt, κ, tb, lr, _, _, h3⟩ := h
  exact h3.1
theorem INV.th (h : INV ξ μ) : INV ξ (m_i μ 41 0 0 0) := h.fr (frm.rf.mi (by unfold fA fT fO fS fR fN fP fX fF fL; omega)) rfl
theorem stG.both (hx : x = y) : stG (m_i (m_i μ 0 0 11 x) 41 0 1 y) := by
  subst hx; rfl
theorem op_sheet (hI : INV ξ μ) (h : ∀ v μ', opQ ξ (d + 20) n12_sheet [sR 41 0, sI x, sI y, sI z] v μ' → Q v 0 (0, 0) μ') : Call (d + 20) n11_sheet [sR 0 0, sI x, sI y, sI z] μ Q := by
  have r3 := i_rng z
  by_cases hb : (∃ s, s < 8 ∧ x = nI s) ∧ (∃ l, l < 3 ∧ y = nI l) ∧ z.toInt ≤ 40
  · obtain ⟨⟨s, hs, rfl⟩, ⟨l, hl, rfl⟩, hz⟩ := hb
    refine call_go (cd := k11_sheet) 60 rfl rfl ?_
    refine c11_isWithin (b := 8) rfl rfl (by omega) (by decide) (fun _ => ?_) (fun z => by omega)
    refine brF (by decide) ?_
    refine c11_isWithin (b := 3) rfl rfl (by omega) (by decide) (fun _ => ?_) (fun z => by omega)
    refine brF (by decide) ?_
    refine brT (by simp (disch := first | omega | (simp (disch := omega) only [nI_toInt, Int32.reduceToInt, i_sub, i_add, i_mul]; omega)) only [iNONE, i_lt, i_le, i_eq, i_in, nI_toInt, Int32.reduceToInt, i_sub, i_add, i_mul]; omega) ?_
    by_cases e : z.toInt < 0
    · refine brF (by simp (disch := first | omega | (simp (disch := omega) only [nI_toInt, Int32.reduceToInt, i_sub, i_add, i_mul]; omega)) only [iNONE, i_lt, i_le, i_eq, i_in, nI_toInt, Int32.reduceToInt, i_sub, i_add, i_mul]; omega) ?_
      refine c11_found ?_
      refine h _ _ (fun Q hq => ?_)
      refine call_go (cd := k12_sheet) 60 rfl rfl ?_
      refine r12_isSheet (fun _ _ _ => ?_) (fun q => by rw [nI_toInt (by omega)] at q; omega)
      refine brF (by decide) ?_
      refine r12_inN (b := 3) (by decide) (fun _ _ _ => ?_) (fun q => by rw [nI_toInt (by omega)] at q; omega)
      refine brF (by decide) ?_
      refine brT (by simp (disch := first | omega | (simp (disch := omega) only [nI_toInt, Int32.reduceToInt, i_sub, i_add, i_mul]; omega)) only [iNONE, i_lt, i_le, i_eq, i_in, nI_toInt, Int32.reduceToInt, i_sub, i_add, i_mul]; omega) ?_
      refine brF (by simp (disch := first | omega | (simp (disch := omega) only [nI_toInt, Int32.reduceToInt, i_sub, i_add, i_mul]; omega)) only [iNONE, i_lt, i_le, i_eq, i_in, nI_toInt, Int32.reduceToInt, i_sub, i_add, i_mul]; omega) ?_
      refine r12_finding ?_
      refine hq _ (hI.sh ((((frm.rf.mi (by unfold fS' fT fO fS fR fN fP fX fF fL; omega)).mi (by unfold fS' fT fO fS fR fN fP fX fF fL; omega)).mi (by unfold fS' fT fO fS fR fN fP fX fF fL; omega)).mi (by unfold fS' fT fO fS fR fN fP fX fF fL; omega)) rfl ?_ rfl)
      exact hI.sg.fr ((((frm.rf.mi (by unfold fS; omega)).mi (by unfold fS; omega)).mi (by unfold fS; omega)).mi (by unfold fS; omega))
    · refine brT (by simp (disch := first | omega | (simp (disch := omega) only [nI_toInt, Int32.reduceToInt, i_sub, i_add, i_mul]; omega)) only [iNONE, i_lt, i_le, i_eq, i_in, nI_toInt, Int32.reduceToInt, i_sub, i_add, i_mul]; omega) ?_
      obtain ⟨m, hm, rfl⟩ := nI_ofB (x := z) (b := 41) (by omega) (by omega)
      refine c6_lay rfl hs ?_
      refine c11_foundNothing ?_
      refine h _ _ (fun Q hq => ?_)
      refine call_go (cd := k12_sheet) 6 rfl rfl ?_
      refine r12_isSheet (fun _ _ _ => ?_) (fun q => by rw [nI_toInt (by omega)] at q; omega)
      refine brF (by decide) ?_
      refine run_go 6 ?_
      refine r12_inN (b := 3) (by decide) (fun _ _ _ => ?_) (fun q => by rw [nI_toInt (by omega)] at q; omega)
      refine brF (by decide) ?_
      refine run_go 3 ?_
      refine brT (by simp (disch := first | omega | (simp (disch := omega) only [nI_toInt, Int32.reduceToInt, i_sub, i_add, i_mul]; omega)) only [iNONE, i_lt, i_le, i_eq, i_in, nI_toInt, Int32.reduceToInt, i_sub, i_add, i_mul]; omega) ?_
      refine run_go 5 ?_
      refine brT (by simp (disch := first | omega | (simp (disch := omega) only [nI_toInt, Int32.reduceToInt, i_sub, i_add, i_mul]; omega)) only [iNONE, i_lt, i_le, i_eq, i_in, nI_toInt, Int32.reduceToInt, i_sub, i_add, i_mul]; omega) ?_
      refine run_go 12 ?_
      refine And.intro (by simp (disch := first | omega | (simp (disch := omega) only [nI_toInt, Int32.reduceToInt, i_sub, i_add, i_mul]; omega)) only [iNONE, i_lt, i_le, i_eq, i_in, nI_toInt, Int32.reduceToInt, i_sub, i_add, i_mul]; omega) ?_
      refine And.intro (by simp (disch := first | omega | (simp (disch := omega) only [nI_toInt, Int32.reduceToInt, i_sub, i_add, i_mul]; omega)) only [iNONE, i_lt, i_le, i_eq, i_in, nI_toInt, Int32.reduceToInt, i_sub, i_add, i_mul]; omega) ?_
      rw [nI_clamp (by omega)]
      generalize hM : m_i (m_i (m_i (layC μ s (nI l) (nI m)) 0 0 11 0) 41 0 0 0) 41 0 1 0 = M
      have key : Run k12_sheet (Call (d + 19)) Q 65 [some (sR 41 0), some (sI (nI s)), some (sI (nI l)), some (sI (nI m)), some (sI 0)] [] (clR (m_i (m_i M 51 0 s (nI l)) 52 0 s (nI m)) 53 s 0) := by
        refine loopF (cd := k12_sheet) (d := d + 19) (Q := Q) 40 (fun _ j => [some (sR 41 0), some (sI (nI s)), some (sI (nI l)), some (sI (nI m)), some (sI j)]) (fun i => clR (m_i (m_i M 51 0 s (nI l)) 52 0 s (nI m)) 53 s i) 65 ?_ (fun i hi kk => ?_)
        · refine run_go 20 ?_
          refine brT (by decide) ?_
          subst hM
          obtain ⟨la, mn, it, g1, g2, g3⟩ := hI.sg
          refine hq _ (hI.sh ?_ rfl ⟨fun q => if q = s then l else la q, fun q => if q = s then m else mn q, fun q => if 40 * s ≤ q ∧ q < 40 * s + 40 then 0 else it q, ?_, ?_, ?_⟩ rfl)
          · intro a i k z
            have z1 : ¬ fS a i k := z.2.1
            have z2 : ¬ fF a i k := z.2.2
            have z3 : ¬ (a = 41 ∧ k = 0) := fun q => by obtain ⟨rfl, rfl⟩ := q; have := z.1; unfold fT fO fS fR fN fP fX fF fL at this; omega
            unfold fS at z1
            unfold fF at z2
            refine (if_neg (fun q => by omega)).trans ?_
            rw [mi_n (by omega), mi_n (by omega), mi_n (by omega), mi_n (by omega), mi_n (by omega)]
            refine (if_neg (fun q => by omega)).trans ?_
            rw [mi_n (by omega), mi_n (by omega)]
          · intro q hq'
            by_cases e : q = s
            · dsimp only; rw [if_pos e, if_pos e]; exact ⟨Or.inr hl, by omega⟩
            · dsimp only; rw [if_neg e, if_neg e]; exact g1 q hq'
          · refine ⟨fun q hq' => ?_, fun q hq' => ?_⟩
            · show (if 2 = 3 ∧ 0 = 0 ∧ q = s then nI m else if 2 = 2 ∧ 0 = 0 ∧ q = s then nI l else μ.1 2 0 q) = _ ∧ (_ → (if 3 = 3 ∧ 0 = 0 ∧ q = s then nI m else μ.1 3 0 q) = _)
              by_cases e : q = s
              · dsimp only
                rw [if_neg (by omega), if_pos (⟨rfl, rfl, e⟩ : 2 = 2 ∧ 0 = 0 ∧ q = s), if_pos (⟨rfl, rfl, e⟩ : 3 = 3 ∧ 0 = 0 ∧ q = s), if_pos e, if_pos e, m9_n (by omega)]
                exact ⟨rfl, fun _ => rfl⟩
              · dsimp only
                rw [if_neg (by omega), if_neg (fun q' => e q'.2.2 : ¬ (2 = 2 ∧ 0 = 0 ∧ q = s)), if_neg (fun q' => e q'.2.2 : ¬ (3 = 3 ∧ 0 = 0 ∧ q = s)), if_neg e, if_neg e]
                exact g2.1 q hq'
            · show (if 4 = 4 ∧ 0 = 0 ∧ 40 * s ≤ q ∧ q < 40 * s + 40 then 0 else μ.1 4 0 q) = if 40 * s ≤ q ∧ q < 40 * s + 40 then 0 else it q
              by_cases e : 40 * s ≤ q ∧ q < 40 * s + 40
              · rw [if_pos ⟨rfl, rfl, e⟩, if_pos e]
              · rw [if_neg (fun q => e q.2.2), if_neg e]; exact g2.2 q hq'
          · refine ⟨fun q hq' => ?_, fun q hq' => ?_⟩
            · show (if 51 = 52 ∧ 0 = 0 ∧ q = s then nI m else if 51 = 51 ∧ 0 = 0 ∧ q = s then nI l else μ.1 51 0 q) = _ ∧ (_ → (if 52 = 52 ∧ 0 = 0 ∧ q = s then nI m else μ.1 52 0 q) = _)
              by_cases e : q = s
              · dsimp only
                rw [if_neg (by omega), if_pos (⟨rfl, rfl, e⟩ : 51 = 51 ∧ 0 = 0 ∧ q = s), if_pos (⟨rfl, rfl, e⟩ : 52 = 52 ∧ 0 = 0 ∧ q = s), if_pos e, if_pos e, m9_n (by omega)]
                exact ⟨rfl, fun _ => rfl⟩
              · dsimp only
                rw [if_neg (by omega), if_neg (fun q' => e q'.2.2 : ¬ (51 = 51 ∧ 0 = 0 ∧ q = s)), if_neg (fun q' => e q'.2.2 : ¬ (52 = 52 ∧ 0 = 0 ∧ q = s)), if_neg e, if_neg e]
                exact g3.1 q hq'
            · show (if 53 = 53 ∧ 0 = 0 ∧ 40 * s ≤ q ∧ q < 40 * s + 40 then 0 else μ.1 53 0 q) = if 40 * s ≤ q ∧ q < 40 * s + 40 then 0 else it q
              by_cases e : 40 * s ≤ q ∧ q < 40 * s + 40
              · rw [if_pos ⟨rfl, rfl, e⟩, if_pos e]
              · rw [if_neg (fun q => e q.2.2), if_neg e]; exact g3.2 q hq'
        · refine run_go 3 ?_
          refine brF (by simp (disch := first | omega | (simp (disch := omega) only [nI_toInt, Int32.reduceToInt, i_sub, i_add, i_mul]; omega)) only [iNONE, i_lt, i_le, i_eq, i_in, nI_toInt, Int32.reduceToInt, i_sub, i_add, i_mul]; omega) ?_
          refine run_go 11 ?_
          (refine And.intro (by rw [nI_04]; exact vp_in_nI (by omega) (by decide)) ?_; rw [nI_04, nI_clamp (by omega)])
          rw [clR_s]
          exact kk
      rw [clR_0] at key
      exact key
  · have hB : Q (-1000001) 0 (0, 0) μ := by
      refine h _ _ (fun Q hq => ?_)
      have hq' := hq _ hI.th
      refine call_go (cd := k12_sheet) 60 rfl rfl ?_
      refine r12_isSheet (fun s hs e1 => ?_) (fun q => ?_)
      · refine brF (by decide) ?_
        refine r12_inN (b := 3) (by decide) (fun l hl e2 => ?_) (fun q => ?_)
        · refine brF (by decide) ?_
          have e3 : ¬ z.toInt ≤ 40 := fun e => hb ⟨⟨s, hs, e1⟩, ⟨l, hl, e2⟩, e⟩
          refine brF (by simp (disch := first | omega | (simp (disch := omega) only [nI_toInt, Int32.reduceToInt, i_sub, i_add, i_mul]; omega)) only [iNONE, i_lt, i_le, i_eq, i_in, nI_toInt, Int32.reduceToInt, i_sub, i_add, i_mul]; omega) ?_
          exact hq'
        · refine brT rfl ?_
          exact hq'
      · refine brT rfl ?_
        exact hq'
    refine call_go (cd := k11_sheet) 60 rfl rfl ?_
    refine c11_within (b := 8) rfl (by decide) (fun s hs e1 => ?_) (fun _ => ?_)
    · refine brF (by decide) ?_
      refine c11_within (b := 3) rfl (by decide) (fun l hl e2 => ?_) (fun _ => ?_)
      · refine brF (by decide) ?_
        have e3 : ¬ z.toInt ≤ 40 := fun e => hb ⟨⟨s, hs, e1⟩, ⟨l, hl, e2⟩, e⟩
        refine brF (by simp (disch := first | omega | (simp (disch := omega) only [nI_toInt, Int32.reduceToInt, i_sub, i_add, i_mul]; omega)) only [iNONE, i_lt, i_le, i_eq, i_in, nI_toInt, Int32.reduceToInt, i_sub, i_add, i_mul]; omega) ?_
        exact hB
      · refine brT rfl ?_
        exact hB
    · refine brT rfl ?_
      exact hB
end OP
