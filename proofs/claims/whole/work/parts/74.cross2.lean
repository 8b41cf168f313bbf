/-! two arms along their rows: distances, and the class's laying -/
section OP
variable {d n k c s a b r u o i m p q t : Nat} {μ μ' μ'' : sM} {Q : sQ} {L R f : Nat → Int32} {la mn : Nat → Nat} {it : Nat → Int32} {x y z v : Int32} {ξ : Nat → Nat → Int32}
theorem dT_s0 : dT L R (p + 1) 0 = if L (p + 1) = R 0 then 1000 else min (dT L R p 0 + 1) 1000 := rfl
theorem dT_0s : dT L R 0 (q + 1) = if L 0 = R (q + 1) then 1000 else min (dT L R 0 q + 1) 1000 := rfl
theorem dT_ss : dT L R (p + 1) (q + 1) = if L (p + 1) = R (q + 1) then 1000 else min ((if L p = R (q + 1) ∧ L (p + 1) = R q then min (dT L R p (q + 1)) (dT L R (p + 1) q) else min (min (dT L R p (q + 1)) (dT L R (p + 1) q)) (dT L R p q)) + 1) 1000 := rfl
theorem d_r (h : ¬ L (a + 1) = R b) : dT L R (a + 1) b ≤ dT L R a b + 1 := by
  cases b with
  | zero => rw [dT_s0, if_neg h]; omega
  | succ b => rw [dT_ss, if_neg h]; split <;> omega
theorem d_d (h : ¬ L a = R (b + 1)) : dT L R a (b + 1) ≤ dT L R a b + 1 := by
  cases a with
  | zero => rw [dT_0s, if_neg h]; omega
  | succ a => rw [dT_ss, if_neg h]; split <;> omega
theorem d_x (h : ¬ L (a + 1) = R (b + 1)) (h2 : ¬ (L a = R (b + 1) ∧ L (a + 1) = R b)) : dT L R (a + 1) (b + 1) ≤ dT L R a b + 1 := by
  rw [dT_ss, if_neg h, if_neg h2]; omega
theorem d_inv (h : dT L R c q = t + 1) (ht : t + 1 < 1000) : ¬ L c = R q ∧ ((∃ a, c = a + 1 ∧ dT L R a q = t) ∨ (∃ b, q = b + 1 ∧ dT L R c b = t) ∨ ∃ a b, c = a + 1 ∧ q = b + 1 ∧ ¬ (L a = R (b + 1) ∧ L (a + 1) = R b) ∧ dT L R a b = t) := by
  cases c with
  | zero =>
    cases q with
    | zero =>
      have h : (if L 0 = R 0 then 1000 else 0) = t + 1 := h
      split at h <;> omega
    | succ q =>
      rw [dT_0s] at h
      split at h
      · omega
      · rename_i e
        exact ⟨e, Or.inr (Or.inl ⟨q, rfl, by omega⟩)⟩
  | succ c =>
    cases q with
    | zero =>
      rw [dT_s0] at h
      split at h
      · omega
      · rename_i e
        exact ⟨e, Or.inl ⟨c, rfl, by omega⟩⟩
    | succ q =>
      rw [dT_ss] at h
      split at h
      · omega
      · rename_i e
        refine ⟨e, ?_⟩
        split at h
        · by_cases e2 : dT L R c (q + 1) = t
          · exact Or.inl ⟨c, rfl, e2⟩
          · exact Or.inr (Or.inl ⟨q, rfl, by omega⟩)
        · rename_i e3
          by_cases e2 : dT L R c (q + 1) = t
          · exact Or.inl ⟨c, rfl, e2⟩
          · by_cases e4 : dT L R (c + 1) q = t
            · exact Or.inr (Or.inl ⟨q, rfl, e4⟩)
            · exact Or.inr (Or.inr ⟨c, q, rfl, rfl, e3, by omega⟩)
theorem d_fin : ∀ (t : Nat), t < 1000 → ∀ p q, dT L R p q = t → t ≤ p + q
  | 0, _, _, _, _ => Nat.zero_le _
  | t + 1, ht, p, q, h => by
    obtain ⟨_, h2⟩ := d_inv h ht
    rcases h2 with ⟨a, e, h3⟩ | ⟨b, e, h3⟩ | ⟨a, b, e, e2, _, h3⟩
    · have := d_fin t (by omega) _ _ h3; omega
    · have := d_fin t (by omega) _ _ h3; omega
    · have := d_fin t (by omega) _ _ h3; omega
/-- one tick from a pair to another, by g -/
def hitP (L R : Nat → Int32) (n m t a b g k : Nat) : Prop := a < n ∧ b < m ∧ g < 4 ∧ dT L R a b ≤ t ∧ a + g % 2 < n ∧ b + g / 2 < m ∧ k = 12 * (a + g % 2) + (b + g / 2) ∧ ¬ L (a + g % 2) = R (b + g / 2) ∧ ¬ (L (a + g % 2) = R b ∧ R (b + g / 2) = L a)
def rcP (L R : Nat → Int32) (n m t k : Nat) : Prop := k / 12 < n ∧ k % 12 < m ∧ dT L R (k / 12) (k % 12) ≤ t
theorem stepD (hm : m ≤ 12) (ht : t < 500) : rcP L R n m (t + 1) k ↔ rcP L R n m t k ∨ ∃ a b g, hitP L R n m t a b g k := by
  constructor
  · rintro ⟨h1, h2, h3⟩
    by_cases e : dT L R (k / 12) (k % 12) ≤ t
    · exact Or.inl ⟨h1, h2, e⟩
    · refine Or.inr ?_
      obtain ⟨e0, h4⟩ := d_inv (t := t) (show dT L R (k / 12) (k % 12) = t + 1 by omega) (by omega)
      rcases h4 with ⟨a, e1, h5⟩ | ⟨b, e1, h5⟩ | ⟨a, b, e1, e2, e3, h5⟩
      · refine ⟨a, k % 12, 1, by omega, h2, by decide, by omega, by omega, by omega, by omega, ?_, ?_⟩
        · show ¬ L (a + 1) = R (k % 12 + 0)
          rw [← e1]; exact e0
        · rintro ⟨z, _⟩
          have z : L (a + 1) = R (k % 12) := z
          rw [← e1] at z
          exact e0 z
      · refine ⟨k / 12, b, 2, h1, by omega, by decide, by omega, by omega, by omega, by omega, ?_, ?_⟩
        · show ¬ L (k / 12 + 0) = R (b + 1)
          rw [← e1]; exact e0
        · rintro ⟨_, z⟩
          have z : R (b + 1) = L (k / 12) := z
          rw [← e1] at z
          exact e0 z.symm
      · refine ⟨a, b, 3, by omega, by omega, by decide, by omega, by omega, by omega, by omega, ?_, ?_⟩
        · show ¬ L (a + 1) = R (b + 1)
          rw [← e1, ← e2]; exact e0
        · rintro ⟨z1, z2⟩
          exact e3 ⟨z2.symm, z1⟩
  · rintro (h | ⟨a, b, g, h1, h2, h3, h4, h5, h6, h7, h8, h9⟩)
    · exact ⟨h.1, h.2.1, by have := h.2.2; omega⟩
    · have e1 : k / 12 = a + g % 2 := by omega
      have e2 : k % 12 = b + g / 2 := by omega
      refine ⟨by omega, by omega, ?_⟩
      rw [e1, e2]
      rcases (by omega : g = 0 ∨ g = 1 ∨ g = 2 ∨ g = 3) with rfl | rfl | rfl | rfl
      · show dT L R a b ≤ t + 1
        omega
      · have := d_r (L := L) (R := R) (a := a) (b := b) h8
        show dT L R (a + 1) b ≤ t + 1
        omega
      · have := d_d (L := L) (R := R) (a := a) (b := b) h8
        show dT L R a (b + 1) ≤ t + 1
        omega
      · have := d_x (L := L) (R := R) (a := a) (b := b) h8 (fun z => h9 ⟨z.2, z.1.symm⟩)
        show dT L R (a + 1) (b + 1) ≤ t + 1
        omega
def f35 (a _ _ : Nat) : Prop := ¬ (35 ≤ a ∧ a ≤ 38)
theorem c2_lay (hs : s < 8) (hW : shW la mn) (hC : shC μ la mn it) (hp : la s ≠ 9) (hn : 0 < n ∧ n ≤ 12) (hm : 0 < m ∧ m ≤ 12) (hi : i + (n + m) ≤ mn s) (h : ∀ μ', frm f35 μ μ' → μ'.2 = μ.2 → μ'.1 35 0 3 = nI n → μ'.1 35 0 4 = nI m → (∀ j, j < n → μ'.1 36 0 j = it (40 * s + i + j)) → (∀ j, j < m → μ'.1 37 0 j = it (40 * s + i + (n + j))) → Q 0 0 (0, 0) μ') : Call (d + 4) n2_lay [sR 35 0, sR 1 0, sI (nI s), sI (nI i), sI (nI n), sI (nI m)] μ Q := by
  have hmn := (hW s hs).2
  have e3 : (if (12 : Int32) < nI n then (12 : Int32) else nI n) = nI n := if_neg (by simp (disch := first | omega | (simp (disch := omega) only [nI_toInt, Int32.reduceToInt, i_sub, i_add, i_mul]; omega)) only [iNONE, i_lt, i_le, i_eq, i_in, nI_toInt, Int32.reduceToInt, i_sub, i_add, i_mul]; omega)
  have e4 : (if (12 : Int32) < nI m then (12 : Int32) else nI m) = nI m := if_neg (by simp (disch := first | omega | (simp (disch := omega) only [nI_toInt, Int32.reduceToInt, i_sub, i_add, i_mul]; omega)) only [iNONE, i_lt, i_le, i_eq, i_in, nI_toInt, Int32.reduceToInt, i_sub, i_add, i_mul]; omega)
  refine call_go (cd := k2_lay) 12 rfl rfl ?_
  refine loopC (cd := k2_lay) (d := d + 3) (Q := Q) n (fun p ls μ' => ls = [some (sR 35 0), some (sR 1 0), some (sI (nI s)), some (sI (nI i)), some (sI (nI n)), some (sI (nI m)), some (sI (nI p))] ∧ frm f35 μ μ' ∧ μ'.2 = μ.2 ∧ μ'.1 35 0 3 = nI n ∧ μ'.1 35 0 4 = nI m ∧ ∀ j, j < p → μ'.1 36 0 j = it (40 * s + i + j)) 25 0 _ _ (Nat.zero_le _) ⟨rfl, (frm.rf.mi (by unfold f35; omega)).mi (by unfold f35; omega), rfl, ?_, ?_, fun j hj => absurd hj (Nat.not_lt_zero j)⟩ ?_
  · rw [mi_k (by decide), mi_s]; exact e3
  · rw [mi_s]; exact e4
  rintro p ls μ1 hp' ⟨rfl, F1, E1, N1, M1, I1⟩ kk
  have C1 : shC μ1 la mn it := hC.fr (F1.sub (fun a i k z => by unfold fS at z; unfold f35; omega))
  refine run_go 4 ?_
  by_cases e : p = n
  · subst e
    refine brT (by simp (disch := first | omega | (simp (disch := omega) only [nI_toInt, Int32.reduceToInt, i_sub, i_add, i_mul]; omega)) only [N1, iNONE, i_lt, i_le, i_eq, i_in, nI_toInt, Int32.reduceToInt, i_sub, i_add, i_mul]; omega) ?_
    refine run_go 2 ?_
    refine loopC (cd := k2_lay) (d := d + 3) (Q := Q) m (fun q ls μ' => ls = [some (sR 35 0), some (sR 1 0), some (sI (nI s)), some (sI (nI i)), some (sI (nI p)), some (sI (nI m)), some (sI (nI q))] ∧ frm f35 μ μ' ∧ μ'.2 = μ.2 ∧ μ'.1 35 0 3 = nI p ∧ μ'.1 35 0 4 = nI m ∧ (∀ j, j < p → μ'.1 36 0 j = it (40 * s + i + j)) ∧ ∀ j, j < q → μ'.1 37 0 j = it (40 * s + i + (p + j))) 59 0 _ _ (Nat.zero_le _) ⟨rfl, F1, E1, N1, M1, I1, fun j hj => absurd hj (Nat.not_lt_zero j)⟩ ?_
    rintro q ls μ2 hq ⟨rfl, F2, E2, N2, M2, I2, J2⟩ kk2
    have C2 : shC μ2 la mn it := hC.fr (F2.sub (fun a i k z => by unfold fS at z; unfold f35; omega))
    refine run_go 4 ?_
    by_cases e2 : q = m
    · subst e2
      refine brT (by simp (disch := first | omega | (simp (disch := omega) only [nI_toInt, Int32.reduceToInt, i_sub, i_add, i_mul]; omega)) only [M2, iNONE, i_lt, i_le, i_eq, i_in, nI_toInt, Int32.reduceToInt, i_sub, i_add, i_mul]; omega) ?_
      refine run_go 5 ?_
      exact h _ F2 E2 N2 M2 I2 J2
    · refine brF (by simp (disch := first | omega | (simp (disch := omega) only [nI_toInt, Int32.reduceToInt, i_sub, i_add, i_mul]; omega)) only [M2, iNONE, i_lt, i_le, i_eq, i_in, nI_toInt, Int32.reduceToInt, i_sub, i_add, i_mul]; omega) ?_
      refine run_go 14 ?_
      refine c6_read (i := i + p + q) rfl (by rw [nI_add, nI_add]) hs hW C2 hp (by omega) ?_
      refine And.intro (by simp (disch := first | omega | (simp (disch := omega) only [nI_toInt, Int32.reduceToInt, i_sub, i_add, i_mul]; omega)) only [iNONE, i_lt, i_le, i_eq, i_in, nI_toInt, Int32.reduceToInt, i_sub, i_add, i_mul]; omega) ?_
      rw [nI_clamp (by omega), show 40 * s + (i + p + q) = 40 * s + i + (p + q) by omega]
      refine kk2 _ _ (by omega) ⟨by rw [← nI_1 q], F2.mi (by unfold f35; omega), E2, (mi_t (by decide)).trans N2, (mi_t (by decide)).trans M2, fun j hj => (mi_t (by decide)).trans (I2 j hj), fun j hj => ?_⟩
      by_cases e3 : j = q
      · subst e3; exact mi_s
      · rw [mi_k e3]; exact J2 j (by omega)
  · refine brF (by simp (disch := first | omega | (simp (disch := omega) only [nI_toInt, Int32.reduceToInt, i_sub, i_add, i_mul]; omega)) only [N1, iNONE, i_lt, i_le, i_eq, i_in, nI_toInt, Int32.reduceToInt, i_sub, i_add, i_mul]; omega) ?_
    refine run_go 12 ?_
    refine c6_read (i := i + p) rfl (by rw [nI_add]) hs hW C1 hp (by omega) ?_
    refine And.intro (by simp (disch := first | omega | (simp (disch := omega) only [nI_toInt, Int32.reduceToInt, i_sub, i_add, i_mul]; omega)) only [iNONE, i_lt, i_le, i_eq, i_in, nI_toInt, Int32.reduceToInt, i_sub, i_add, i_mul]; omega) ?_
    rw [nI_clamp (by omega), show 40 * s + (i + p) = 40 * s + i + p by omega]
    refine kk _ _ (by omega) ⟨by rw [← nI_1 p], F1.mi (by unfold f35; omega), E1, (mi_t (by decide)).trans N1, (mi_t (by decide)).trans M1, fun j hj => ?_⟩
    by_cases e3 : j = p
    · subst e3; exact mi_s
    · rw [mi_k e3]; exact I1 j (by omega)
theorem c2_isOfRows (hn : n ≤ 12) (hm : m ≤ 12) (h3 : μ.1 35 0 3 = nI n) (h4 : μ.1 35 0 4 = nI m) (hL : ∀ j, j < n → μ.1 36 0 j = L j) (hR : ∀ j, j < m → μ.1 37 0 j = R j) (h1 : rwP L n ∧ rwP R m → Q 1 0 (0, 0) μ) (h2 : ¬ (rwP L n ∧ rwP R m) → Q 0 0 (0, 0) μ) : Call (d + 3) n2_isOfRows [sR 35 0] μ Q := by
  have s3 : (sI (μ.1 35 0 3)) = sI (nI n) := by rw [h3]
  have s4 : (sI (μ.1 35 0 4)) = sI (nI m) := by rw [h4]
  have k2 : ∀ Q : sQ, (rwP R m → Q 1 0 (0, 0) μ) → (¬ rwP R m → Q 0 0 (0, 0) μ) → Call (d + 2) n2_isRow [sR 37 0, sI (μ.1 35 0 4)] μ Q := by
    intro Q q1 q2
    rw [h4]
    exact c2_isRow (Or.inr rfl) hm hR q1 q2
  have k1 : ∀ Q : sQ, (rwP L n → Q 1 0 (0, 0) μ) → (¬ rwP L n → Q 0 0 (0, 0) μ) → Call (d + 2) n2_isRow [sR 36 0, sI (μ.1 35 0 3)] μ Q := by
    intro Q q1 q2
    rw [h3]
    exact c2_isRow (Or.inl rfl) hn hL q1 q2
  refine call_go (cd := k2_isOfRows) 40 rfl rfl ?_
  refine k1 _ (fun e => ?_) (fun e => ?_)
  · refine brF (by decide) ?_
    refine k2 _ (fun e2 => ?_) (fun e2 => ?_)
    · refine brF (by decide) ?_
      exact ⟨Or.inr rfl, h1 ⟨e, e2⟩⟩
    · refine brT rfl ?_
      exact ⟨Or.inl rfl, h2 (fun z => e2 z.2)⟩
  · refine brT rfl ?_
    exact ⟨Or.inl rfl, h2 (fun z => e z.1)⟩
end OP
