/-! feed -/
def byN (v : Int64) : Nat := v.toBitVec.toNat % 256
theorem by_and (v : Int64) : (v &&& 255).toInt32 = nI (byN v) := by
  have h1 : byN v < 256 := Nat.mod_lt _ (by decide)
  have h2 : (v &&& 255).toBitVec.toNat = byN v := by
    show v.toBitVec.toNat &&& 255 = _
    exact Nat.and_two_pow_sub_one_eq_mod (x := v.toBitVec.toNat) (n := 8)
  have h3 : (v &&& 255).toInt = byN v := by
    show (v &&& 255).toBitVec.toInt = _
    rw [BitVec.toInt_eq_toNat_cond, if_pos (by omega), h2]
  rw [i_eq, Int64.toInt_toInt32, h3, nI_toInt (by omega)]
  exact Int.bmod_eq_of_le (by omega) (by omega)
theorem by_i8 (v : Int64) : v.toInt32.toInt8.toInt32 = byI (byN v) := by
  have h1 : byN v < 256 := Nat.mod_lt _ (by decide)
  have h0 : byN v = v.toBitVec.toNat % 256 := rfl
  have h2 : v.toInt = if 2 * v.toBitVec.toNat < 2 ^ 64 then (v.toBitVec.toNat : Int) else (v.toBitVec.toNat : Int) - (2 ^ 64 : Nat) := BitVec.toInt_eq_toNat_cond ..
  have h3 : (v.toInt32.toInt8.toInt32).toInt = v.toInt.bmod 256 := by
    rw [Int8.toInt_toInt32, Int32.toInt_toInt8, Int64.toInt_toInt32]
    exact Int.bmod_bmod_of_dvd (by decide)
  have h4 : v.toInt.bmod 256 = if byN v < 128 then (byN v : Int) else (byN v : Int) - 256 := by
    rw [Int.bmod_def, h2]
    split <;> split <;> split <;> omega
  rw [i_eq, h3, h4]
  unfold byI
  split
  · rw [nI_toInt (by omega)]
  · have e : (256 : Int32).toInt = 256 := by decide
    rw [i_sub (by rw [nI_toInt (by omega), e]; omega) (by rw [nI_toInt (by omega), e]; omega), nI_toInt (by omega), e]
theorem i8_twice (x : Int8) : vp_nar .byte x.toInt32 = x.toInt32 := by
  show x.toInt32.toInt8.toInt32 = x.toInt32
  rw [Int8.toInt8_toInt32]
section OP
variable {d n k c s a b r u o i rel κ tl : Nat} {tp : Nat → Nat} {μ μ' : sM} {Q : sQ} {x y z w v : Int32} {l : Int64} {ξ : Nat → Nat → Int32}
def fdV (l : Int64) (n i : Nat) : Int64 := l >>> ((8 * (nI n - 1 - nI i)).toInt64 &&& 63)
theorem dn_v (h : i ≤ n) (hn : n < 1000) : (nI n - 1 - nI i).toInt = (n : Int) - 1 - i := by
  have e : (1 : Int32).toInt = 1 := by decide
  have e1 : (nI n - 1).toInt = (n : Int) - 1 := by
    rw [i_sub (by rw [nI_toInt (by omega), e]; omega) (by rw [nI_toInt (by omega), e]; omega), nI_toInt (by omega), e]
  rw [i_sub (by rw [e1, nI_toInt (by omega)]; omega) (by rw [e1, nI_toInt (by omega)]; omega), e1, nI_toInt (by omega)]
theorem dn_1 (h : i < n) (hn : n < 1000) : nI n - 1 - nI i + (-1) = nI n - 1 - nI (i + 1) := by
  have e : (-1 : Int32).toInt = -1 := by decide
  rw [i_eq, dn_v (by omega) hn, i_add (by rw [dn_v (by omega) hn, e]; omega) (by rw [dn_v (by omega) hn, e]; omega), dn_v (by omega) hn, e]
  omega
/-- as fed, up to i -/
def fdC (μ μ' : sM) (l : Int64) (tl n i : Nat) : Prop := μ'.1 33 0 2 = nI (tl + i) ∧ (∀ j, j < i → μ'.1 34 0 (tl + j) = byI (byN (fdV l n j))) ∧ (∀ k, k < tl → μ'.1 34 0 k = μ.1 34 0 k) ∧ (∀ a i k, ¬ (a = 34 ∨ a = 33 ∧ k = 2) → μ'.1 a i k = μ.1 a i k) ∧ μ'.2 = μ.2
def fdR (μ μ' : sM) (l : Int64) (tl n i : Nat) : Prop := μ'.1 41 0 21 = nI (tl + i) ∧ (∀ j, j < i → μ'.1 55 0 (tl + j) = nI (byN (fdV l n j))) ∧ (∀ k, k < tl → μ'.1 55 0 k = μ.1 55 0 k) ∧ (∀ a i k, ¬ (a = 55 ∨ a = 41 ∧ k = 21) → μ'.1 a i k = μ.1 a i k) ∧ μ'.2 = μ.2
theorem fdC.st (h : fdC μ μ' l tl n i) : fdC μ (m_i (m_i μ' 34 0 (tl + i) (byI (byN (fdV l n i)))) 33 0 2 (nI (tl + i) + 1)) l tl n (i + 1) := by
  refine ⟨?_, fun j hj => ?_, fun k hk => ?_, fun a q k z => ?_, h.2.2.2.2⟩
  · rw [mi_s, nI_1]; rfl
  · rw [mi_t (by decide)]
    by_cases e : j = i
    · subst e; rw [mi_s]
    · rw [mi_k (by omega)]; exact h.2.1 j (by omega)
  · rw [mi_t (by decide), mi_k (by omega)]; exact h.2.2.1 k hk
  · rw [mi_n (by omega), mi_n (by omega)]; exact h.2.2.2.1 a q k z
theorem fdR.st (h : fdR μ μ' l tl n i) : fdR μ (m_i (m_i μ' 55 0 (tl + i) (nI (byN (fdV l n i)))) 41 0 21 (nI (tl + i) + 1)) l tl n (i + 1) := by
  refine ⟨?_, fun j hj => ?_, fun k hk => ?_, fun a q k z => ?_, h.2.2.2.2⟩
  · rw [mi_s, nI_1]; rfl
  · rw [mi_t (by decide)]
    by_cases e : j = i
    · subst e; rw [mi_s]
    · rw [mi_k (by omega)]; exact h.2.1 j (by omega)
  · rw [mi_t (by decide), mi_k (by omega)]; exact h.2.2.1 k hk
  · rw [mi_n (by omega), mi_n (by omega)]; exact h.2.2.2.1 a q k z
theorem c4_append (hx : x = nI n) (hn : n ≤ 8) (ht : tl + n ≤ 300) (hl : μ.1 33 0 2 = nI tl) (h : ∀ μ', fdC μ μ' l tl n n → Q (nI (tl + n)) 0 (0, 0) μ') : Call (d + 1) n4_append [sR 33 0, sL l, sI x] μ Q := by
  subst hx
  refine call_go (cd := k4_append) 4 rfl rfl ?_
  have key : Run k4_append (Call d) Q 5 [some (sR 33 0), some (sL l), none, some (sI (nI n)), some (sI (nI n - 1 - 0))] [] μ := by
    refine loopC (cd := k4_append) (d := d) (Q := Q) n (fun i ls μ' => ls = [some (sR 33 0), some (sL l), none, some (sI (nI n)), some (sI (nI n - 1 - nI i))] ∧ fdC μ μ' l tl n i) 5 0 _ μ (Nat.zero_le n) ⟨rfl, hl, fun j hj => absurd hj (Nat.not_lt_zero j), fun _ _ => rfl, fun _ _ _ _ => rfl, rfl⟩ ?_
    rintro i ls μ' hi ⟨rfl, hI⟩ kk
    refine run_go 2 ?_
    have dv := dn_v hi (by omega)
    by_cases e : i = n
    · subst e
      refine brT (by simp (disch := first | omega | (simp (disch := omega) only [nI_toInt, Int32.reduceToInt, i_sub, i_add, i_mul]; omega)) only [dv, iNONE, i_lt, i_le, i_eq, i_in, nI_toInt, Int32.reduceToInt, i_sub, i_add, i_mul]; omega) ?_
      refine run_go 20 ?_
      show Q (μ'.1 33 0 2) 0 (0, 0) μ'
      rw [hI.1]
      exact h _ hI
    · refine brF (by simp (disch := first | omega | (simp (disch := omega) only [nI_toInt, Int32.reduceToInt, i_sub, i_add, i_mul]; omega)) only [dv, iNONE, i_lt, i_le, i_eq, i_in, nI_toInt, Int32.reduceToInt, i_sub, i_add, i_mul]; omega) ?_
      refine run_go 4 ?_
      refine brF (by simp (disch := first | omega | (simp (disch := omega) only [nI_toInt, Int32.reduceToInt, i_sub, i_add, i_mul]; omega)) only [hI.1, iNONE, i_lt, i_le, i_eq, i_in, nI_toInt, Int32.reduceToInt, i_sub, i_add, i_mul]; omega) ?_
      refine run_go 20 ?_
      refine And.intro (by rw [hI.1]; exact vp_in_nI (by omega) (by decide)) ?_
      rw [hI.1, nI_clamp (by omega), i8_twice, by_i8]
      refine kk _ _ (by omega) ⟨by rw [dn_1 (by omega) (by omega)], ?_⟩
      rw [mi_t (by decide), hI.1]
      exact hI.st
  rw [Int32.sub_zero] at key
  exact key
theorem op_feed (hI : INV ξ μ) (h : ∀ v μ', opQ ξ (d + 20) n12_feed [sR 41 0, sL l, sI x] v μ' → Q v 0 (0, 0) μ') : Call (d + 20) n11_feed [sR 0 0, sL l, sI x] μ Q := by
  obtain ⟨κ, hO⟩ := inv_ot hI
  obtain ⟨tl, tp, h1, h2, h3, h4, h5⟩ := hO.2.2.2.1
  have rx := i_rng x
  refine call_go (cd := k11_feed) 60 rfl rfl ?_
  by_cases hx : 1 ≤ x.toInt ∧ x.toInt ≤ 8
  · obtain ⟨n, hn, rfl⟩ := nI_ofB (x := x) (b := 9) (by omega) (by omega)
    simp (disch := omega) only [nI_toInt] at hx
    refine brF (by simp (disch := first | omega | (simp (disch := omega) only [nI_toInt, Int32.reduceToInt, i_sub, i_add, i_mul]; omega)) only [iNONE, i_lt, i_le, i_eq, i_in, nI_toInt, Int32.reduceToInt, i_sub, i_add, i_mul]; omega) ?_
    refine brT (by simp (disch := first | omega | (simp (disch := omega) only [nI_toInt, Int32.reduceToInt, i_sub, i_add, i_mul]; omega)) only [iNONE, i_lt, i_le, i_eq, i_in, nI_toInt, Int32.reduceToInt, i_sub, i_add, i_mul]; omega) ?_
    by_cases hr : tl + n ≤ 300
    · refine call_go (cd := k4_hasRoomFor) 60 rfl rfl ?_
      refine brF (by simp (disch := first | omega | (simp (disch := omega) only [nI_toInt, Int32.reduceToInt, i_sub, i_add, i_mul]; omega)) only [h2, iNONE, i_lt, i_le, i_eq, i_in, nI_toInt, Int32.reduceToInt, i_sub, i_add, i_mul]; omega) ?_
      refine ⟨Or.inr rfl, ?_⟩
      refine brF (by decide) ?_
      refine c4_append rfl (by omega) hr h2 (fun μ1 g1 => ?_)
      refine h _ _ (fun Q hq => ?_)
      have t1 : (m_i μ1 41 0 0 0).1 41 0 21 = nI tl := (g1.2.2.2.1 41 0 21 (by omega)).trans h3
      refine call_go (cd := k12_feed) 9 rfl rfl ?_
      refine r12_in (fun _ => ?_) (fun e => absurd (by rw [j_of, show (1 : Int64).toInt = 1 from by decide, show (8 : Int64).toInt = 8 from by decide, nI_toInt (by omega)]; omega) e)
      · refine brnF (by decide) ?_
        refine run_go 6 ?_
        refine brT (by simp (disch := first | omega | (simp (disch := omega) only [nI_toInt, Int32.reduceToInt, i_sub, i_add, i_mul]; omega)) only [t1, iNONE, i_lt, i_le, i_eq, i_in, nI_toInt, Int32.reduceToInt, i_sub, i_add, i_mul]; omega) ?_
        refine run_go 4 ?_
        have key : Run k12_feed (Call (d + 19)) Q 40 [some (sR 41 0), some (sL l), none, some (sI (nI n)), some (sI (nI n - 1 - 0))] [] (m_i μ1 41 0 0 0) := by
          refine loopC (cd := k12_feed) (d := d + 19) (Q := Q) n (fun i ls μ' => ls = [some (sR 41 0), some (sL l), none, some (sI (nI n)), some (sI (nI n - 1 - nI i))] ∧ fdR (m_i μ1 41 0 0 0) μ' l tl n i) 40 0 _ _ (Nat.zero_le n) ⟨rfl, t1, fun j hj => absurd hj (Nat.not_lt_zero j), fun _ _ => rfl, fun _ _ _ _ => rfl, rfl⟩ ?_
          rintro i ls μ' hi ⟨rfl, hI'⟩ kk
          refine run_go 2 ?_
          have dv := dn_v hi (by omega)
          by_cases e : i = n
          · subst e
            refine brT (by simp (disch := first | omega | (simp (disch := omega) only [nI_toInt, Int32.reduceToInt, i_sub, i_add, i_mul]; omega)) only [dv, iNONE, i_lt, i_le, i_eq, i_in, nI_toInt, Int32.reduceToInt, i_sub, i_add, i_mul]; omega) ?_
            refine run_go 20 ?_
            show Q (μ'.1 41 0 21) 0 (0, 0) μ'
            rw [hI'.1]
            refine hq _ (hI.tp ?_ (hI'.2.2.2.2.trans g1.2.2.2.2) ⟨tl + i, fun k => if k < tl then tp k else byN (fdV l i (k - tl)), by omega, ?_, hI'.1, ?_, fun k hk => ?_⟩)
            · intro a q k z
              have z1 : ¬ fP a q k := z.2
              have z3 : ¬ (a = 41 ∧ k = 0) := fun q => by obtain ⟨rfl, rfl⟩ := q; have := z.1; unfold fT fO fS fR fN fP fX fF fL at this; omega
              unfold fP at z1
              rw [hI'.2.2.2.1 a q k (by omega), mi_n (by omega)]
              exact g1.2.2.2.1 a q k (by omega)
            · rw [hI'.2.2.2.1 33 0 2 (by omega), mi_t (by decide)]; exact g1.1
            · rw [hI'.2.2.2.1 33 0 6 (by omega), hI'.2.2.2.1 41 0 22 (by omega), mi_t (by decide), mi_k (by decide), g1.2.2.2.1 33 0 6 (by omega), g1.2.2.2.1 41 0 22 (by omega)]; exact h4
            · dsimp only
              rw [hI'.2.2.2.1 34 0 k (by omega), mi_t (by decide)]
              by_cases e : k < tl
              · rw [if_pos e, g1.2.2.1 k e, hI'.2.2.1 k e, mi_t (by decide), g1.2.2.2.1 55 0 k (by omega)]
                exact h5 k e
              · have e1 := g1.2.1 (k - tl) (by omega)
                have e2 := hI'.2.1 (k - tl) (by omega)
                rw [show tl + (k - tl) = k by omega] at e1 e2
                rw [if_neg e, e1, e2]
                exact ⟨Nat.mod_lt _ (by decide), rfl, rfl⟩
          · refine brF (by simp (disch := first | omega | (simp (disch := omega) only [nI_toInt, Int32.reduceToInt, i_sub, i_add, i_mul]; omega)) only [dv, iNONE, i_lt, i_le, i_eq, i_in, nI_toInt, Int32.reduceToInt, i_sub, i_add, i_mul]; omega) ?_
            refine run_go 21 ?_
            refine And.intro (by rw [hI'.1]; exact vp_in_nI (by omega) (by decide)) ?_
            rw [hI'.1, nI_clamp (by omega), by_and]
            refine kk _ _ (by omega) ⟨by rw [dn_1 (by omega) (by omega)], ?_⟩
            rw [mi_t (by decide), hI'.1]
            exact hI'.st
        rw [Int32.sub_zero] at key
        exact key
    · refine call_go (cd := k4_hasRoomFor) 60 rfl rfl ?_
      refine brT (by simp (disch := first | omega | (simp (disch := omega) only [nI_toInt, Int32.reduceToInt, i_sub, i_add, i_mul]; omega)) only [h2, iNONE, i_lt, i_le, i_eq, i_in, nI_toInt, Int32.reduceToInt, i_sub, i_add, i_mul]; omega) ?_
      refine ⟨Or.inl rfl, ?_⟩
      refine brT rfl ?_
      refine h _ _ (fun Q hq => ?_)
      refine call_go (cd := k12_feed) 30 rfl rfl ?_
      refine r12_in (fun _ => ?_) (fun e => absurd (by rw [j_of, show (1 : Int64).toInt = 1 from by decide, show (8 : Int64).toInt = 8 from by decide, nI_toInt (by omega)]; omega) e)
      · refine brnF (by decide) ?_
        have t1 : (m_i μ 41 0 0 0).1 41 0 21 = nI tl := h3
        refine brF (by simp (disch := first | omega | (simp (disch := omega) only [nI_toInt, Int32.reduceToInt, i_sub, i_add, i_mul]; omega)) only [t1, iNONE, i_lt, i_le, i_eq, i_in, nI_toInt, Int32.reduceToInt, i_sub, i_add, i_mul]; omega) ?_
        exact hq _ hI.th
  · have hB : Q (-1000001) 0 (0, 0) μ := by
      refine h _ _ (fun Q hq => ?_)
      refine call_go (cd := k12_feed) 30 rfl rfl ?_
      refine r12_in (fun e => absurd (by rw [j_of, show (1 : Int64).toInt = 1 from by decide, show (8 : Int64).toInt = 8 from by decide] at e; exact e) hx) (fun _ => ?_)
      refine brnT rfl ?_
      exact hq _ hI.th
    by_cases c1 : x.toInt < 1
    · refine brT (by simp (disch := first | omega | (simp (disch := omega) only [nI_toInt, Int32.reduceToInt, i_sub, i_add, i_mul]; omega)) only [iNONE, i_lt, i_le, i_eq, i_in, nI_toInt, Int32.reduceToInt, i_sub, i_add, i_mul]; omega) ?_
      exact hB
    · refine brF (by simp (disch := first | omega | (simp (disch := omega) only [nI_toInt, Int32.reduceToInt, i_sub, i_add, i_mul]; omega)) only [iNONE, i_lt, i_le, i_eq, i_in, nI_toInt, Int32.reduceToInt, i_sub, i_add, i_mul]; omega) ?_
      refine brF (by simp (disch := first | omega | (simp (disch := omega) only [nI_toInt, Int32.reduceToInt, i_sub, i_add, i_mul]; omega)) only [iNONE, i_lt, i_le, i_eq, i_in, nI_toInt, Int32.reduceToInt, i_sub, i_add, i_mul]; omega) ?_
      exact hB
end OP
