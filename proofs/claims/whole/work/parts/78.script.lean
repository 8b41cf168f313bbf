/-! no call touches the script -/
theorem m59 {μ : sM} {t i k : Nat} {x : Int32} {X : Nat → Nat → Int32} (hX : μ.1 59 = X) (h : t ≠ 59) : (m_i μ t i k x).1 59 = X := by
  rw [← hX]
  funext j l
  exact mi_t (fun e => h e.symm)
theorem m59c {μ : sM} {t i sp t' i' dp n : Nat} {X : Nat → Nat → Int32} (hX : μ.1 59 = X) (h : t' ≠ 59) : (m_c μ t i sp t' i' dp n).1 59 = X := by
  rw [← hX]
  funext j l
  exact if_neg (fun e => h e.1.symm)
theorem ars59 {t n : Nat} {c : Nat} (h : nth (9, 0) ars t = (c, n)) (hc : c < 5) : t ≠ 59 := by
  rintro rfl
  have : nth (9, 0) ars 59 = (5, 0) := rfl
  rw [this] at h
  cases h
  omega
theorem shp59 {t a g : Nat} (h : (Nat.beq t g && Nat.blt a (nth [] shp t).length) = true) : t ≠ 59 := by
  rintro rfl
  rw [Bool.and_eq_true] at h
  have h2 : Nat.blt a 0 = true := h.2
  rw [Nat.blt_eq] at h2
  omega
set_option maxHeartbeats 4000000 in
theorem stepO_S {C : sC} {X : Nat → Nat → Int32} (hM : monC C C) (hC : ∀ y as (μ : sM) (Q : sQ), μ.1 59 = X → C y as μ (fun v w q μ' => μ'.1 59 = X → Q v w q μ') → C y as μ Q) {Q : sQ} {K : sP} (op : Instr) (nx a : Nat) (c0 : Int32) (c1 : Int64) (ls : sO) (st : List sv) (μ : sM) (hX : μ.1 59 = X) :
    stepO op nx a c0 c1 C (fun v w q μ' => μ'.1 59 = X → Q v w q μ') (fun pc ls st μ' => μ'.1 59 = X → K pc ls st μ') ls st μ → stepO op nx a c0 c1 C Q K ls st μ := by
  cases op <;> simp only [stepO] <;> try exact id
  all_goals first
    | exact fun h => h hX
    | exact pI_mono fun _ _ h => h hX
    | exact pII_mono fun _ _ _ h => h hX
    | exact pL_mono fun _ _ h => h hX
    | exact pLL_mono fun _ _ _ h => h hX
    | exact pLI_mono fun _ _ _ h => h hX
    | exact pII_mono fun _ _ _ h => ⟨h.1, h.2 hX⟩
    | exact pII_mono fun _ _ _ => cnP_mono (fun h => h hX) (fun h => h hX)
    | exact pI_mono fun _ _ => cnP_mono (fun h => h hX) (fun h => h hX)
    | exact pI_mono fun _ _ => swP_mono (fun _ h => h hX) _ _ _
    | (refine pI_mono fun _ _ => ?_; rw [l_kill_eq, l_kill_eq, l_put_eq, l_put_eq]; exact fun h => h hX)
    | (refine pR_mono fun _ _ _ => ?_; rw [l_kill_eq, l_kill_eq, l_put_eq, l_put_eq]; exact fun h => h hX)
    | (refine pL_mono fun _ _ => ?_; rw [l_kill_eq, l_kill_eq, l_put_eq, l_put_eq, l_put_eq, l_put_eq]; exact fun h => h hX)
    | (split <;> first | exact id | exact fun h => h hX)
    | (split <;> first | exact id | exact fun h => h hX | (rw [l_kill_eq, l_kill_eq, l_put_eq, l_put_eq]; exact fun h => h hX))
    | (split <;> first | exact id | exact fun h => ⟨h.1, h.2 hX⟩ | exact fun h => h hX)
    | (split <;> first | exact id | exact cond_mono (fun h => h hX))
    | (refine pR_mono fun _ _ _ => cond_mono ?_; split <;> exact fun h => h hX)
    | (refine pRI_mono fun t _ _ _ => ?_
       cases hb : (Nat.beq t _ && Nat.blt _ (nth [] shp t).length) with
       | false => exact fun h => absurd h id
       | true =>
         dsimp only [cond]
         split
         · exact fun h => h (m59 hX (shp59 hb))
         · exact id)
    | (refine pRI_mono fun _ _ _ _ => ?_; split <;> first | exact id | exact fun h => ⟨h.1, h.2 hX⟩)
    | (refine pRII_mono fun t _ _ _ _ => ?_
       split
       all_goals first
         | exact id
         | (rename_i hb; exact fun h => ⟨h.1, h.2 (m59 hX (ars59 hb (by decide)))⟩))
    | (refine pRIL_mono fun _ _ _ _ _ => ?_; split <;> first | exact id | exact fun h => ⟨h.1, h.2 hX⟩)
    | (refine pR_mono fun _ _ _ => ?_; split <;> first | exact id | exact fun h => h hX)
    | (refine popK_mono (fun _ _ => cond_mono ?_) _ _ _; split <;> exact hC _ _ _ _ hX)
    | (split
       · refine pCP_mono fun _ _ _ _ _ _ _ _ => cond_mono ?_
         split
         · rename_i h1 h2; exact fun h => ⟨h.1, h.2 (m59c hX (ars59 h2 (by decide)))⟩
         · exact id
       · exact pR_mono fun _ _ _ => cond_mono (fun h => h hX)
       · exact pRI_mono fun _ _ _ _ => cond_mono fun h => ⟨h.1, h.2 hX⟩
       · exact pI_mono fun _ _ => cond_mono (fun h => h hX)
       · exact pII_mono fun _ _ _ => cond_mono (fun h => h hX)
       · exact pII_mono fun _ _ _ => cond_mono (fun h => h hX)
       · exact id)
    | skip
theorem call_S {X : Nat → Nat → Int32} : ∀ (d y : Nat) (as : List sv) (μ : sM) (Q : sQ), μ.1 59 = X → Call d y as μ (fun v w q μ' => μ'.1 59 = X → Q v w q μ') → Call d y as μ Q
  | 0, _, _, _, _, _, h => absurd h Call_no
  | d + 1, y, as, μ, Q, hX, h => by
    rw [Call_iff] at h ⊢
    refine ⟨h.1, ?_⟩
    have key : μ.1 59 = X → Run (codeOf y) (Call d) Q 0 (l_arg as) [] μ := by
      refine h.2 (fun pc ls st μ => μ.1 59 = X → Run (codeOf y) (Call d) Q pc ls st μ) (fun pc ls st μ hst hX => ?_)
      refine Run.fold (Call.mon d) ?_
      unfold stepW at hst ⊢
      revert hst
      generalize codeOf y pc = z
      obtain ⟨op, nx, a, c0, c1⟩ := z
      exact stepO_S (Call.mon d) (fun y as μ Q hX h => call_S d y as μ Q hX h) op nx a c0 c1 ls st μ hX
    exact key hX
