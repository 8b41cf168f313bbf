/-! ways: a tick, and all ticks -/
section OP
variable {d n k c s a b g r u o i m p q t A : Nat} {μ μ' μ'' M : sM} {Q : sQ} {L R f : Nat → Int32} {la mn : Nat → Nat} {it : Nat → Int32} {x y z v : Int32} {ξ : Nat → Nat → Int32} {X Y : Nat → Nat → Nat → Prop}
theorem tB_0 {P : Prop} (h : ¬ P) : nI (tB P) = 0 := by rw [tB_f h]; rfl
theorem r12_tick (hn : n ≤ 12) (hm : m ≤ 12) (ht : t < 500) (hA : A + n + m ≤ 320) (hL : ∀ j, j < n → μ.1 53 0 (A + j) = L j) (hR : ∀ j, j < m → μ.1 53 0 (A + n + j) = R j) (hr : raI μ L R n m t)
    (h : ∀ μ' r, frm f56 μ μ' → μ'.2 = μ.2 → raI μ' L R n m (t + 1) → Run k12_ways (Call d) Q 518 ([some (sR 41 0), some (sI (nI s)), some (sI (nI i)), some (sI (nI n)), some (sI (nI m)), some (sI 0), some (sI (nI A)), some (sI (nI t))] ++ r) [] μ') :
    Run k12_ways (Call d) Q 262 [some (sR 41 0), some (sI (nI s)), some (sI (nI i)), some (sI (nI n)), some (sI (nI m)), some (sI 0), some (sI (nI A)), some (sI (nI t))] [] μ := by
  refine run_go 2 ?_
  refine loopC (cd := k12_ways) (d := d) (Q := Q) 144 (fun j ls μ' => ls = [some (sR 41 0), some (sI (nI s)), some (sI (nI i)), some (sI (nI n)), some (sI (nI m)), some (sI 0), some (sI (nI A)), some (sI (nI t)), some (sI (nI j))] ∧ frm (fun a _ _ => a ≠ 57) μ μ' ∧ μ'.2 = μ.2 ∧ ∀ k, k < j → μ'.1 57 0 k = 0) 265 0 _ _ (Nat.zero_le _) ⟨rfl, frm.rf, rfl, fun k hk => absurd hk (Nat.not_lt_zero k)⟩ ?_
  rintro j ls μ1 hj ⟨rfl, F1, E1, Z1⟩ kk
  refine run_go 3 ?_
  by_cases e : j = 144
  · subst e
    refine brT (by simp (disch := first | omega | (simp (disch := omega) only [nI_toInt, Int32.reduceToInt, i_sub, i_add, i_mul]; omega)) only [iNONE, i_lt, i_le, i_eq, i_in, nI_toInt, Int32.reduceToInt, i_sub, i_add, i_mul]; omega) ?_
    refine run_go 2 ?_
    refine loopC (cd := k12_ways) (d := d) (Q := Q) n (fun a ls μ' => ∃ r, ls = [some (sR 41 0), some (sI (nI s)), some (sI (nI i)), some (sI (nI n)), some (sI (nI m)), some (sI 0), some (sI (nI A)), some (sI (nI t)), some (sI (nI a))] ++ r ∧ frm (fun a _ _ => a ≠ 57) μ μ' ∧ μ'.2 = μ.2 ∧ nwI μ' L R n m t (fun a' _ _ => a' < a)) 290 0 _ _ (Nat.zero_le _) ⟨[], rfl, F1, E1, fun k hk => (Z1 k hk).trans (tB_0 (fun ⟨a, _, _, z, _⟩ => absurd z (Nat.not_lt_zero a))).symm⟩ ?_
    rintro a ls μ2 ha ⟨r, rfl, F2, E2, W2⟩ kk2
    refine run_sub (ls := [some (sR 41 0), some (sI (nI s)), some (sI (nI i)), some (sI (nI n)), some (sI (nI m)), some (sI 0), some (sI (nI A)), some (sI (nI t)), some (sI (nI a))]) ?_ (subL.app _ r)
    refine run_go 3 ?_
    by_cases e2 : a = n
    · refine brT (by simp (disch := first | omega | (simp (disch := omega) only [nI_toInt, Int32.reduceToInt, i_sub, i_add, i_mul]; omega)) only [iNONE, i_lt, i_le, i_eq, i_in, nI_toInt, Int32.reduceToInt, i_sub, i_add, i_mul]; omega) ?_
      -- old or new
      refine run_go 2 ?_
      have old : ∀ k, k < 144 → μ2.1 56 0 k = nI (tB (rcP L R n m t k)) := fun k hk => (F2 56 0 k (by omega)).trans (hr k hk)
      have new : ∀ k, k < 144 → μ2.1 57 0 k = nI (tB (∃ a b g, hitP L R n m t a b g k)) := fun k hk => by
        rw [W2 k hk]
        congr 1
        exact tB_iff ⟨fun ⟨a', b', g', _, z⟩ => ⟨a', b', g', z⟩, fun ⟨a', b', g', z⟩ => ⟨a', b', g', by have := z.1; omega, z⟩⟩
      refine loopC (cd := k12_ways) (d := d) (Q := Q) 144 (fun j ls μ' => ls = [some (sR 41 0), some (sI (nI s)), some (sI (nI i)), some (sI (nI n)), some (sI (nI m)), some (sI 0), some (sI (nI A)), some (sI (nI t)), some (sI (nI j))] ∧ frm (fun a _ _ => a ≠ 56) μ2 μ' ∧ μ'.2 = μ.2 ∧ (∀ k, k < j → μ'.1 56 0 k = nI (tB (rcP L R n m (t + 1) k))) ∧ ∀ k, j ≤ k → k < 144 → μ'.1 56 0 k = nI (tB (rcP L R n m t k))) 472 0 _ _ (Nat.zero_le _) ⟨rfl, frm.rf, E2, fun k hk => absurd hk (Nat.not_lt_zero k), fun k _ hk => old k hk⟩ ?_
      rintro j ls μ3 hj ⟨rfl, F3, E3, D3, U3⟩ kk3
      refine run_go 3 ?_
      by_cases e4 : j = 144
      · subst e4
        refine brT (by simp (disch := first | omega | (simp (disch := omega) only [nI_toInt, Int32.reduceToInt, i_sub, i_add, i_mul]; omega)) only [iNONE, i_lt, i_le, i_eq, i_in, nI_toInt, Int32.reduceToInt, i_sub, i_add, i_mul]; omega) ?_
        exact h μ3 [some (sI (nI 144))] (fun a i k z => (F3 a i k z.1).trans (F2 a i k z.2)) E3 D3
      · refine brF (by simp (disch := first | omega | (simp (disch := omega) only [nI_toInt, Int32.reduceToInt, i_sub, i_add, i_mul]; omega)) only [iNONE, i_lt, i_le, i_eq, i_in, nI_toInt, Int32.reduceToInt, i_sub, i_add, i_mul]; omega) ?_
        have hj' : j < 144 := by omega
        have sd := stepD (L := L) (R := R) (n := n) (m := m) (t := t) (k := j) hm ht
        have go : ∀ v : Nat, nI v = nI (tB (rcP L R n m (t + 1) j)) → v < 2 → Run k12_ways (Call d) Q 511 [some (sR 41 0), some (sI (nI s)), some (sI (nI i)), some (sI (nI n)), some (sI (nI m)), some (sI 0), some (sI (nI A)), some (sI (nI t)), some (sI (nI j))] [sI (nI v), sI (nI j), sR 56 0] μ3 := by
          intro v hv hv2
          refine run_go 3 ?_
          refine And.intro (by simp (disch := first | omega | (simp (disch := omega) only [nI_toInt, Int32.reduceToInt, i_sub, i_add, i_mul]; omega)) only [iNONE, i_lt, i_le, i_eq, i_in, nI_toInt, Int32.reduceToInt, i_sub, i_add, i_mul]; omega) ?_
          rw [nI_clamp (by omega)]
          have nv : vp_nar .boolean (nI v) = nI v := by
            rcases (by omega : v = 0 ∨ v = 1) with rfl | rfl <;> decide
          rw [nv]
          refine kk3 _ _ hj' ⟨by rw [← nI_1 j], F3.mi (by omega), E3, fun k hk => ?_, fun k hk hk' => ?_⟩
          · by_cases q5 : k = j
            · subst q5; rw [mi_s]; exact hv
            · rw [mi_k q5]; exact D3 k (by omega)
          · rw [mi_k (by omega)]; exact U3 k (by omega) hk'
        refine run_go 8 ?_
        refine And.intro (by simp (disch := first | omega | (simp (disch := omega) only [nI_toInt, Int32.reduceToInt, i_sub, i_add, i_mul]; omega)) only [iNONE, i_lt, i_le, i_eq, i_in, nI_toInt, Int32.reduceToInt, i_sub, i_add, i_mul]; omega) ?_
        rw [nI_clamp (by omega), U3 j (Nat.le_refl j) hj']
        by_cases c1 : rcP L R n m t j
        · refine brnF (by rw [tB_t c1]; decide) ?_
          refine run_go 2 ?_
          exact go 1 (by rw [tB_t (sd.mpr (Or.inl c1))]) (by decide)
        · refine brnT (tB_0 c1) ?_
          refine run_go 5 ?_
          refine And.intro (by simp (disch := first | omega | (simp (disch := omega) only [nI_toInt, Int32.reduceToInt, i_sub, i_add, i_mul]; omega)) only [iNONE, i_lt, i_le, i_eq, i_in, nI_toInt, Int32.reduceToInt, i_sub, i_add, i_mul]; omega) ?_
          rw [nI_clamp (by omega), show μ3.1 57 0 j = _ from (F3 57 0 j (by omega)).trans (new j hj')]
          by_cases c2 : ∃ a b g, hitP L R n m t a b g j
          · refine brF (by rw [tB_t c2]; decide) ?_
            refine run_go 2 ?_
            exact go 1 (by rw [tB_t (sd.mpr (Or.inr c2))]) (by decide)
          · refine brT (tB_0 c2) ?_
            refine run_go 1 ?_
            exact go 0 (by rw [tB_f (fun z => by rcases sd.mp z with w | w; exact c1 w; exact c2 w)]) (by decide)
    · refine brF (by simp (disch := first | omega | (simp (disch := omega) only [nI_toInt, Int32.reduceToInt, i_sub, i_add, i_mul]; omega)) only [iNONE, i_lt, i_le, i_eq, i_in, nI_toInt, Int32.reduceToInt, i_sub, i_add, i_mul]; omega) ?_
      have ha' : a < n := by omega
      refine run_go 2 ?_
      refine loopC (cd := k12_ways) (d := d) (Q := Q) m (fun b ls μ' => ∃ r, ls = [some (sR 41 0), some (sI (nI s)), some (sI (nI i)), some (sI (nI n)), some (sI (nI m)), some (sI 0), some (sI (nI A)), some (sI (nI t)), some (sI (nI a)), some (sI (nI b))] ++ r ∧ frm (fun a _ _ => a ≠ 57) μ μ' ∧ μ'.2 = μ.2 ∧ nwI μ' L R n m t (fun a' b' _ => a' < a ∨ a' = a ∧ b' < b)) 299 0 _ _ (Nat.zero_le _) ⟨[], rfl, F2, E2, W2.eq (fun a' b' g' k => ⟨fun z => ⟨Or.inl z.1, z.2⟩, fun z => ⟨by omega, z.2⟩⟩)⟩ ?_
      rintro b ls μ3 hb ⟨r, rfl, F3, E3, W3⟩ kk3
      refine run_sub (ls := [some (sR 41 0), some (sI (nI s)), some (sI (nI i)), some (sI (nI n)), some (sI (nI m)), some (sI 0), some (sI (nI A)), some (sI (nI t)), some (sI (nI a)), some (sI (nI b))]) ?_ (subL.app _ r)
      refine run_go 3 ?_
      by_cases e3 : b = m
      · refine brT (by simp (disch := first | omega | (simp (disch := omega) only [nI_toInt, Int32.reduceToInt, i_sub, i_add, i_mul]; omega)) only [iNONE, i_lt, i_le, i_eq, i_in, nI_toInt, Int32.reduceToInt, i_sub, i_add, i_mul]; omega) ?_
        refine run_go 2 ?_
        refine kk2 _ _ ha' ⟨[some (sI (nI b))], by rw [← nI_1 a]; rfl, F3, E3, W3.eq (fun a' b' g' k => ⟨fun z => ⟨by omega, z.2⟩, fun z => ⟨?_, z.2⟩⟩)⟩
        have z1 : a' < a + 1 := z.1
        have z2 : b' < m := z.2.2.1
        show a' < a ∨ a' = a ∧ b' < b
        omega
      · refine brF (by simp (disch := first | omega | (simp (disch := omega) only [nI_toInt, Int32.reduceToInt, i_sub, i_add, i_mul]; omega)) only [iNONE, i_lt, i_le, i_eq, i_in, nI_toInt, Int32.reduceToInt, i_sub, i_add, i_mul]; omega) ?_
        have hb' : b < m := by omega
        refine run_go 2 ?_
        refine r12_g (X := fun a' b' _ => a' < a ∨ a' = a ∧ b' < b) hn hm ha' hb' hA (fun j hj => (F3 53 0 _ (by omega)).trans (hL j hj)) (fun j hj => (F3 53 0 _ (by omega)).trans (hR j hj)) (fun k hk => (F3 56 0 k (by omega)).trans (hr k hk)) W3 (fun g => by omega) (fun μ4 r4 F4 E4 W4 => ?_)
        refine run_sub (ls := [some (sR 41 0), some (sI (nI s)), some (sI (nI i)), some (sI (nI n)), some (sI (nI m)), some (sI 0), some (sI (nI A)), some (sI (nI t)), some (sI (nI a)), some (sI (nI b))]) ?_ (subL.app _ r4)
        refine run_go 2 ?_
        refine kk3 _ _ hb' ⟨[], by rw [← nI_1 b]; rfl, F3.tr F4, E4.trans E3, W4.eq (fun a' b' g' k => ⟨fun z => ⟨?_, z.2⟩, fun z => ⟨?_, z.2⟩⟩)⟩
        · have z1 : (a' < a ∨ a' = a ∧ b' < b) ∨ a' = a ∧ b' = b := z.1
          show a' < a ∨ a' = a ∧ b' < b + 1
          omega
        · have z1 : a' < a ∨ a' = a ∧ b' < b + 1 := z.1
          show (a' < a ∨ a' = a ∧ b' < b) ∨ a' = a ∧ b' = b
          omega
  · refine brF (by simp (disch := first | omega | (simp (disch := omega) only [nI_toInt, Int32.reduceToInt, i_sub, i_add, i_mul]; omega)) only [iNONE, i_lt, i_le, i_eq, i_in, nI_toInt, Int32.reduceToInt, i_sub, i_add, i_mul]; omega) ?_
    refine run_go 7 ?_
    refine And.intro (by simp (disch := first | omega | (simp (disch := omega) only [nI_toInt, Int32.reduceToInt, i_sub, i_add, i_mul]; omega)) only [iNONE, i_lt, i_le, i_eq, i_in, nI_toInt, Int32.reduceToInt, i_sub, i_add, i_mul]; omega) ?_
    rw [nI_clamp (by omega), nar0]
    refine kk _ _ (by omega) ⟨by rw [← nI_1 j], F1.mi (by omega), E1, fun k hk => ?_⟩
    by_cases q5 : k = j
    · subst q5; exact mi_s
    · rw [mi_k q5]; exact Z1 k (by omega)
theorem r12_ticks (hn : 0 < n ∧ n ≤ 12) (hm : 0 < m ∧ m ≤ 12) (hA : A + n + m ≤ 320) (hL : ∀ j, j < n → μ.1 53 0 (A + j) = L j) (hR : ∀ j, j < m → μ.1 53 0 (A + n + j) = R j) (hr : raI μ L R n m 0)
    (h : ∀ μ', frm f56 μ μ' → μ'.2 = μ.2 → Q (if dT L R (n - 1) (m - 1) = 1000 then nONE else nI (dT L R (n - 1) (m - 1))) 0 (0, 0) μ') :
    Run k12_ways (Call d) Q 232 [some (sR 41 0), some (sI (nI s)), some (sI (nI i)), some (sI (nI n)), some (sI (nI m)), some (sI 0), some (sI (nI A)), some (sI (nI 0))] [] μ := by
  refine loopC (cd := k12_ways) (d := d) (Q := Q) 150 (fun t ls μ' => ∃ r, ls = [some (sR 41 0), some (sI (nI s)), some (sI (nI i)), some (sI (nI n)), some (sI (nI m)), some (sI 0), some (sI (nI A)), some (sI (nI t))] ++ r ∧ frm f56 μ μ' ∧ μ'.2 = μ.2 ∧ raI μ' L R n m t ∧ t ≤ dT L R (n - 1) (m - 1)) 232 0 _ _ (Nat.zero_le _) ⟨[], rfl, frm.rf, rfl, hr, Nat.zero_le _⟩ ?_
  rintro t ls μ1 ht ⟨r, rfl, F1, E1, R1, D1⟩ kk
  refine run_sub (ls := [some (sR 41 0), some (sI (nI s)), some (sI (nI i)), some (sI (nI n)), some (sI (nI m)), some (sI 0), some (sI (nI A)), some (sI (nI t))]) ?_ (subL.app _ r)
  have dl := dT_le (L := L) (R := R) (p := n - 1) (q := m - 1)
  have df : dT L R (n - 1) (m - 1) < 1000 → dT L R (n - 1) (m - 1) ≤ n - 1 + (m - 1) := fun z => d_fin _ z _ _ rfl
  refine run_go 3 ?_
  by_cases e : t = 150
  · refine brT (by simp (disch := first | omega | (simp (disch := omega) only [nI_toInt, Int32.reduceToInt, i_sub, i_add, i_mul]; omega)) only [iNONE, i_lt, i_le, i_eq, i_in, nI_toInt, Int32.reduceToInt, i_sub, i_add, i_mul]; omega) ?_
    refine run_go 5 ?_
    have h := h μ1 F1 E1
    rw [if_pos (by omega)] at h
    exact h
  · refine brF (by simp (disch := first | omega | (simp (disch := omega) only [nI_toInt, Int32.reduceToInt, i_sub, i_add, i_mul]; omega)) only [iNONE, i_lt, i_le, i_eq, i_in, nI_toInt, Int32.reduceToInt, i_sub, i_add, i_mul]; omega) ?_
    have ie : 12 * (nI n - 1) + nI m - 1 = nI (12 * (n - 1) + (m - 1)) := by
      rw [show (1 : Int32) = nI 1 from rfl, nI_sub (by omega), show (12 : Int32) = nI 12 from rfl, nI_mul, nI_add, nI_sub (by omega)]
      congr 1
      omega
    have rd : rcP L R n m t (12 * (n - 1) + (m - 1)) ↔ dT L R (n - 1) (m - 1) ≤ t := by
      unfold rcP
      rw [show (12 * (n - 1) + (m - 1)) / 12 = n - 1 by omega, show (12 * (n - 1) + (m - 1)) % 12 = m - 1 by omega]
      exact ⟨fun z => z.2.2, fun z => ⟨by omega, by omega, z⟩⟩
    refine run_go 13 ?_
    (refine And.intro (by rw [ie]; exact vp_in_nI (by omega) (by decide)) ?_; rw [ie, nI_clamp (by omega)])
    rw [R1 _ (by omega)]
    by_cases e1 : dT L R (n - 1) (m - 1) ≤ t
    · refine brF (by rw [tB_t (rd.mpr e1)]; decide) ?_
      refine run_go 5 ?_
      have h := h μ1 F1 E1
      rw [if_neg (by omega), show dT L R (n - 1) (m - 1) = t by omega] at h
      exact h
    · refine brT (tB_0 (fun z => e1 (rd.mp z))) ?_
      refine r12_tick (by omega) (by omega) (by omega) hA (fun j hj => (F1 53 0 _ (by unfold f56; omega)).trans (hL j hj)) (fun j hj => (F1 53 0 _ (by unfold f56; omega)).trans (hR j hj)) R1 (fun μ2 r2 F2 E2 R2 => ?_)
      refine run_sub (ls := [some (sR 41 0), some (sI (nI s)), some (sI (nI i)), some (sI (nI n)), some (sI (nI m)), some (sI 0), some (sI (nI A)), some (sI (nI t))]) ?_ (subL.app _ r2)
      refine run_go 2 ?_
      exact kk _ _ (by omega) ⟨[], by rw [← nI_1 t]; rfl, F1.tr F2, E2.trans E1, R2, by omega⟩
end OP
