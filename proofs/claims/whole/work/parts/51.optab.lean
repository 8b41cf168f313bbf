/-! calls that read the table -/
section OP
variable {d n k c s a b r u o i rel κ lr t : Nat} {μ μ' : sM} {Q : sQ} {so wt : Nat → Nat} {T T' : tT} {tb : Nat → tT} {x y z w v : Int32} {ξ : Nat → Nat → Int32}
theorem j_less {m : Nat} (hm : m ≤ 1000) (hx : x = nI m) : (x - 1).toInt64.toInt + 1 = (m : Int) := by
  subst hx
  rw [j_of]
  simp (disch := first | omega | (simp (disch := omega) only [nI_toInt, Int32.reduceToInt]; omega)) only [nI_toInt, Int32.reduceToInt, i_sub]
  omega
theorem r12_isThing (hS : stkR μ n so wt) (h1 : ∀ k, k < n → x = nI k → Q 1 0 (0, 0) μ) (h2 : x.toInt < 0 ∨ (n : Int) ≤ x.toInt → Q 0 0 (0, 0) μ) : Call (d + 2) n12_isThing [sR 41 0, sI x] μ Q := by
  have hn := hS.2.1
  refine call_go (cd := k12_isThing) 30 rfl rfl ?_
  refine r12_inN (b := n) (j_less (by omega) hS.1) (fun a ha e => ?_) (fun e => ?_)
  · exact ⟨Or.inr rfl, h1 a ha e⟩
  · exact ⟨Or.inl rfl, h2 e⟩
theorem r12_thingY (hS : stkR μ n so wt) (hk : k < n) (h : Q 1 0 (0, 0) μ) : Call (d + 2) n12_isThing [sR 41 0, sI (nI k)] μ Q := by
  have hn := hS.2.1
  exact r12_isThing hS (fun _ _ _ => h) (fun q => by rw [nI_toInt (by omega)] at q; omega)
theorem r12_thingN (hS : stkR μ n so wt) (hx : x.toInt < 0 ∨ (n : Int) ≤ x.toInt) (h : Q 0 0 (0, 0) μ) : Call (d + 2) n12_isThing [sR 41 0, sI x] μ Q := by
  have hn := hS.2.1
  exact r12_isThing hS (fun k hk e => by subst e; rw [nI_toInt (by omega)] at hx; omega) (fun _ => h)
theorem r12_isKept (hκ : κ ≤ 8) (hk : μ.1 41 0 6 = nI κ) (h1 : ∀ k, k < κ → x = nI k → Q 1 0 (0, 0) μ) (h2 : x.toInt < 0 ∨ (κ : Int) ≤ x.toInt → Q 0 0 (0, 0) μ) : Call (d + 2) n12_isKept [sR 41 0, sI x] μ Q := by
  refine call_go (cd := k12_isKept) 30 rfl rfl ?_
  refine r12_inN (b := κ) (j_less (by omega) hk) (fun a ha e => ?_) (fun e => ?_)
  · exact ⟨Or.inr rfl, h1 a ha e⟩
  · exact ⟨Or.inl rfl, h2 e⟩
theorem r12_isCell (h1 : ∀ a, a < 8 → x = nI a → Q 1 0 (0, 0) μ) (h2 : x.toInt < 0 ∨ 8 ≤ x.toInt → Q 0 0 (0, 0) μ) : Call (d + 2) n12_isCell [sI x] μ Q := by
  refine call_go (cd := k12_isCell) 30 rfl rfl ?_
  refine r12_inN (b := 8) (by decide) (fun a ha e => ?_) (fun e => ?_)
  · exact ⟨Or.inr rfl, h1 a ha e⟩
  · exact ⟨Or.inl rfl, h2 e⟩
theorem r12_isOrder (h1 : ∀ a, a < 96 → x = nI a → Q 1 0 (0, 0) μ) (h2 : x.toInt < 0 ∨ 96 ≤ x.toInt → Q 0 0 (0, 0) μ) : Call (d + 2) n12_isOrder [sI x] μ Q := by
  refine call_go (cd := k12_isOrder) 30 rfl rfl ?_
  refine r12_inN (b := 96) (by decide) (fun a ha e => ?_) (fun e => ?_)
  · exact ⟨Or.inr rfl, h1 a ha e⟩
  · exact ⟨Or.inl rfl, h2 e⟩
theorem c8_knows (hS : stkC μ n so wt) (h1 : ∀ k, k < n → x = nI k → Q 1 0 (0, 0) μ) (h2 : x.toInt < 0 ∨ (n : Int) ≤ x.toInt → Q 0 0 (0, 0) μ) : Call (d + 1) n8_knows [sR 5 0, sI x] μ Q := by
  have hn := hS.2.1
  have rx := i_rng x
  refine call_go (cd := k8_knows) 30 rfl rfl ?_
  by_cases c1 : x.toInt < 0
  · refine brT (by simp (disch := first | omega | (simp (disch := omega) only [nI_toInt, Int32.reduceToInt, i_sub, i_add, i_mul]; omega)) only [iNONE, i_lt, i_le, i_eq, i_in, nI_toInt, Int32.reduceToInt, i_sub, i_add, i_mul]; omega) ?_
    exact ⟨Or.inl rfl, h2 (Or.inl c1)⟩
  · refine brF (by simp (disch := first | omega | (simp (disch := omega) only [nI_toInt, Int32.reduceToInt, i_sub, i_add, i_mul]; omega)) only [iNONE, i_lt, i_le, i_eq, i_in, nI_toInt, Int32.reduceToInt, i_sub, i_add, i_mul]; omega) ?_
    by_cases c2 : x.toInt < n
    · refine brF (by simp (disch := first | omega | (simp (disch := omega) only [nI_toInt, Int32.reduceToInt, i_sub, i_add, i_mul]; omega)) only [hS.1, iNONE, i_lt, i_le, i_eq, i_in, nI_toInt, Int32.reduceToInt, i_sub, i_add, i_mul]; omega) ?_
      obtain ⟨k, hk, rfl⟩ := nI_ofB (x := x) (b := n) (by omega) c2
      exact ⟨Or.inr rfl, h1 k hk rfl⟩
    · refine brT (by simp (disch := first | omega | (simp (disch := omega) only [nI_toInt, Int32.reduceToInt, i_sub, i_add, i_mul]; omega)) only [hS.1, iNONE, i_lt, i_le, i_eq, i_in, nI_toInt, Int32.reduceToInt, i_sub, i_add, i_mul]; omega) ?_
      exact ⟨Or.inl rfl, h2 (Or.inr (by omega))⟩
theorem c7_has (hκ : κ ≤ 8) (hk : μ.1 16 0 5 = nI κ) (h1 : ∀ k, k < κ → x = nI k → Q 1 0 (0, 0) μ) (h2 : x.toInt < 0 ∨ (κ : Int) ≤ x.toInt → Q 0 0 (0, 0) μ) : Call (d + 1) n7_has [sR 16 0, sI x] μ Q := by
  have rx := i_rng x
  refine call_go (cd := k7_has) 30 rfl rfl ?_
  by_cases c1 : x.toInt < 0
  · refine brT (by simp (disch := first | omega | (simp (disch := omega) only [nI_toInt, Int32.reduceToInt, i_sub, i_add, i_mul]; omega)) only [iNONE, i_lt, i_le, i_eq, i_in, nI_toInt, Int32.reduceToInt, i_sub, i_add, i_mul]; omega) ?_
    exact ⟨Or.inl rfl, h2 (Or.inl c1)⟩
  · refine brF (by simp (disch := first | omega | (simp (disch := omega) only [nI_toInt, Int32.reduceToInt, i_sub, i_add, i_mul]; omega)) only [iNONE, i_lt, i_le, i_eq, i_in, nI_toInt, Int32.reduceToInt, i_sub, i_add, i_mul]; omega) ?_
    by_cases c2 : x.toInt < κ
    · refine brF (by simp (disch := first | omega | (simp (disch := omega) only [nI_toInt, Int32.reduceToInt, i_sub, i_add, i_mul]; omega)) only [hk, iNONE, i_lt, i_le, i_eq, i_in, nI_toInt, Int32.reduceToInt, i_sub, i_add, i_mul]; omega) ?_
      obtain ⟨k, hk, rfl⟩ := nI_ofB (x := x) (b := κ) (by omega) c2
      exact ⟨Or.inr rfl, h1 k hk rfl⟩
    · refine brT (by simp (disch := first | omega | (simp (disch := omega) only [nI_toInt, Int32.reduceToInt, i_sub, i_add, i_mul]; omega)) only [hk, iNONE, i_lt, i_le, i_eq, i_in, nI_toInt, Int32.reduceToInt, i_sub, i_add, i_mul]; omega) ?_
      exact ⟨Or.inl rfl, h2 (Or.inr (by omega))⟩
theorem c7_tableAt (hκ : κ ≤ 8) (hk : μ.1 16 0 5 = nI κ) (h1 : ∀ k, k < κ → x = nI k → Q 0 0 (8, 3 + k) μ) (h2 : x.toInt < 0 ∨ (κ : Int) ≤ x.toInt → Q 0 0 (8, t) μ) : Call (d + 2) n7_tableAt [sR 16 0, sI x, sR 8 t] μ Q := by
  refine call_go (cd := k7_tableAt) 30 rfl rfl ?_
  refine c7_has hκ hk (fun k hk e => ?_) (fun e => ?_)
  · subst e
    refine brF (by decide) ?_
    refine And.intro (by simp (disch := first | omega | (simp (disch := omega) only [nI_toInt, Int32.reduceToInt, i_sub, i_add, i_mul]; omega)) only [iNONE, i_lt, i_le, i_eq, i_in, nI_toInt, Int32.reduceToInt, i_sub, i_add, i_mul]; omega) ?_
    rw [nI_clamp (by omega)]
    exact h1 k hk rfl
  · refine brT rfl ?_
    exact h2 e
/-- a box is shut just if a lid lies on it -/
theorem sh_up (hw : wfT so n T) (hn : n ≤ 6) (hk : k < n) (hs : so k = 2) : zB T k = 9 ∧ (shT so n T k ↔ zI T k + 1 < zS T (zC T k) ∧ so (zA T (zC T k) (zI T k + 1)) = 3) := by
  have hb : zB T k = 9 := Classical.byContradiction (fun e => (hw.2.2.1 k hk e).2.2.2.1 hs)
  have h1 := hw.2.1 k hk hb
  refine ⟨hb, ⟨fun ⟨_, a, ha, e, e3⟩ => ?_, fun ⟨e, e3⟩ => ?_⟩⟩
  · have e1 : zB T a = 9 ∧ 0 < zI T a := by
      refine Classical.byContradiction (fun z => ?_)
      unfold blT at e
      rw [if_neg z] at e
      omega
    have e2 : zA T (zC T a) (zI T a - 1) = k := by
      unfold blT at e
      rw [if_pos e1] at e
      exact e
    have h2 := hw.2.1 a ha e1.1
    have h3 := hw.1 (zC T a) (zI T a - 1) h2.1 (by omega)
    rw [e2] at h3
    rw [h3.2.2.1, h3.2.2.2, show zI T a - 1 + 1 = zI T a by omega]
    exact ⟨h2.2.1, by rw [h2.2.2]; exact e3⟩
  · have h2 := hw.1 (zC T k) (zI T k + 1) h1.1 e
    refine ⟨hs, zA T (zC T k) (zI T k + 1), h2.1, ?_, e3⟩
    unfold blT
    rw [if_pos ⟨h2.2.1, by omega⟩, h2.2.2.1, h2.2.2.2, Nat.add_sub_cancel]
    exact h1.2.2
theorem r12_kindOf (hx : x = nI k) (hw : wfT so n T) (hS : stkR μ n so wt) (hT : tabR μ 0 T) (hk : k < n) (h : Q (nI (kdT so n T k)) 0 (0, 0) μ) : Call (d + 4) n12_kindOf [sR 41 0, sI x] μ Q := by
  subst hx
  have hn := hS.2.1
  have hs := hS.2.2 k hk
  unfold kdT at h
  refine call_go (cd := k12_kindOf) 60 rfl rfl ?_
  refine And.intro (by simp (disch := first | omega | (simp (disch := omega) only [nI_toInt, Int32.reduceToInt, i_sub, i_add, i_mul]; omega)) only [iNONE, i_lt, i_le, i_eq, i_in, nI_toInt, Int32.reduceToInt, i_sub, i_add, i_mul]; omega) ?_
  rw [nI_clamp (by omega), hs.1]
  by_cases e : so k = 2
  · refine brT (by simp (disch := first | omega | (simp (disch := omega) only [nI_toInt, Int32.reduceToInt, i_sub, i_add, i_mul]; omega)) only [iNONE, i_lt, i_le, i_eq, i_in, nI_toInt, Int32.reduceToInt, i_sub, i_add, i_mul]; omega) ?_
    obtain ⟨hb, hu⟩ := sh_up hw hn hk e
    have h1 := hw.2.1 k hk hb
    have h2 := wf_size hw h1.1
    rw [if_neg (by omega), if_neg (by omega), if_pos e] at h
    have ec : ccT T k = zC T k := if_pos hb
    refine r12_cellOf (r := 0) rfl rfl hw hn (by decide) hT hk ?_
    rw [ec]
    refine r12_below (r := 0) rfl rfl hw hn (by decide) hT hk hb ?_
    refine r12_sizeOf (r := 0) rfl rfl (by decide) h1.1 ?_
    rw [nI_1, hT.1 _ h1.1]
    by_cases e1 : zI T k + 1 < zS T (zC T k)
    · refine brF (by simp (disch := first | omega | (simp (disch := omega) only [nI_toInt, Int32.reduceToInt, i_sub, i_add, i_mul]; omega)) only [iNONE, i_lt, i_le, i_eq, i_in, nI_toInt, Int32.reduceToInt, i_sub, i_add, i_mul]; omega) ?_
      have h3 := hw.1 (zC T k) (zI T k + 1) h1.1 e1
      refine r12_thingAt (r := 0) rfl rfl rfl (by decide) h1.1 (by omega) ?_
      rw [hT.2.1 _ _ h1.1 (by omega), if_pos e1]
      refine And.intro (by simp (disch := first | omega | (simp (disch := omega) only [nI_toInt, Int32.reduceToInt, i_sub, i_add, i_mul]; omega)) only [iNONE, i_lt, i_le, i_eq, i_in, nI_toInt, Int32.reduceToInt, i_sub, i_add, i_mul]; omega) ?_
      have h4 := hS.2.2 _ h3.1
      rw [nI_clamp (by omega), h4.1]
      by_cases e2 : so (zA T (zC T k) (zI T k + 1)) = 3
      · refine brnT (by simp (disch := first | omega | (simp (disch := omega) only [nI_toInt, Int32.reduceToInt, i_sub, i_add, i_mul]; omega)) only [iNONE, i_lt, i_le, i_eq, i_in, nI_toInt, Int32.reduceToInt, i_sub, i_add, i_mul]; omega) ?_
        rw [tB_t (hu.mpr ⟨e1, e2⟩)] at h
        exact h
      · refine brnF (by simp (disch := first | omega | (simp (disch := omega) only [nI_toInt, Int32.reduceToInt, i_sub, i_add, i_mul]; omega)) only [iNONE, i_lt, i_le, i_eq, i_in, nI_toInt, Int32.reduceToInt, i_sub, i_add, i_mul]; omega) ?_
        rw [tB_f (fun z => e2 (hu.mp z).2)] at h
        exact h
    · refine brT (by simp (disch := first | omega | (simp (disch := omega) only [nI_toInt, Int32.reduceToInt, i_sub, i_add, i_mul]; omega)) only [iNONE, i_lt, i_le, i_eq, i_in, nI_toInt, Int32.reduceToInt, i_sub, i_add, i_mul]; omega) ?_
      rw [tB_f (fun z => e1 (hu.mp z).1)] at h
      exact h
  · refine brF (by simp (disch := first | omega | (simp (disch := omega) only [nI_toInt, Int32.reduceToInt, i_sub, i_add, i_mul]; omega)) only [iNONE, i_lt, i_le, i_eq, i_in, nI_toInt, Int32.reduceToInt, i_sub, i_add, i_mul]; omega) ?_
    refine And.intro (by simp (disch := first | omega | (simp (disch := omega) only [nI_toInt, Int32.reduceToInt, i_sub, i_add, i_mul]; omega)) only [iNONE, i_lt, i_le, i_eq, i_in, nI_toInt, Int32.reduceToInt, i_sub, i_add, i_mul]; omega) ?_
    rw [nI_clamp (by omega), hs.1]
    by_cases e0 : so k = 0
    · rw [if_pos e0] at h
      refine brnT (by simp (disch := first | omega | (simp (disch := omega) only [nI_toInt, Int32.reduceToInt, i_sub, i_add, i_mul]; omega)) only [iNONE, i_lt, i_le, i_eq, i_in, nI_toInt, Int32.reduceToInt, i_sub, i_add, i_mul]; omega) ?_
      exact h
    · rw [if_neg e0] at h
      refine brnF (by simp (disch := first | omega | (simp (disch := omega) only [nI_toInt, Int32.reduceToInt, i_sub, i_add, i_mul]; omega)) only [iNONE, i_lt, i_le, i_eq, i_in, nI_toInt, Int32.reduceToInt, i_sub, i_add, i_mul]; omega) ?_
      refine And.intro (by simp (disch := first | omega | (simp (disch := omega) only [nI_toInt, Int32.reduceToInt, i_sub, i_add, i_mul]; omega)) only [iNONE, i_lt, i_le, i_eq, i_in, nI_toInt, Int32.reduceToInt, i_sub, i_add, i_mul]; omega) ?_
      rw [nI_clamp (by omega), hs.1]
      by_cases e1 : so k = 1
      · rw [if_pos e1] at h
        refine brnT (by simp (disch := first | omega | (simp (disch := omega) only [nI_toInt, Int32.reduceToInt, i_sub, i_add, i_mul]; omega)) only [iNONE, i_lt, i_le, i_eq, i_in, nI_toInt, Int32.reduceToInt, i_sub, i_add, i_mul]; omega) ?_
        exact h
      · rw [if_neg e1, if_neg e] at h
        refine brnF (by simp (disch := first | omega | (simp (disch := omega) only [nI_toInt, Int32.reduceToInt, i_sub, i_add, i_mul]; omega)) only [iNONE, i_lt, i_le, i_eq, i_in, nI_toInt, Int32.reduceToInt, i_sub, i_add, i_mul]; omega) ?_
        exact h
theorem op_kind (hI : INV ξ μ) (h : ∀ v μ', opQ ξ (d + 20) n12_kind [sR 41 0, sI x] v μ' → Q v 0 (0, 0) μ') : Call (d + 20) n11_kind [sR 0 0, sI x] μ Q := by
  have hI0 := hI
  obtain ⟨n, so, wt, κ, tb, lr, h1, h2, h3⟩ := hI0
  have g1 : tbG (m_i μ 41 0 0 0) n so wt κ tb := h1.fr (frm.rf.mi (by unfold fT; omega))
  refine call_go (cd := k11_kind) 60 rfl rfl ?_
  refine c8_knows h1.1 (fun k hk e => ?_) (fun e => ?_)
  · subst e
    refine brF (by decide) ?_
    refine c9_kindOf rfl (h1.2.2.2.2.2.1 0 (Nat.zero_le _)) h1.1 h1.2.2.2.2.2.2.1 hk ?_
    refine h _ _ (fun Q hq => ?_)
    refine call_go (cd := k12_kind) 60 rfl rfl ?_
    refine r12_thingY g1.2.1 hk ?_
    refine brF (by decide) ?_
    refine r12_kindOf rfl (h1.2.2.2.2.2.1 0 (Nat.zero_le _)) g1.2.1 (g1.2.2.2.2.2.2.2.2 0 (Nat.zero_le _)) hk ?_
    exact hq _ hI.th
  · refine brT rfl ?_
    refine h _ _ (fun Q hq => ?_)
    refine call_go (cd := k12_kind) 60 rfl rfl ?_
    refine r12_thingN g1.2.1 e ?_
    refine brT rfl ?_
    exact hq _ hI.th
end OP
