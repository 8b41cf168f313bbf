/-! calls of sheets: copy -/
/-- the first m of a stretch copied, upwards; the last m, downwards -/
def cpU (μ : sM) (p q m : Nat) : sM := (fun a i k => if a = 53 ∧ i = 0 ∧ q ≤ k ∧ k < q + m then μ.1 53 0 (p + (k - q)) else μ.1 a i k, μ.2)
def cpD (μ : sM) (p q n m : Nat) : sM := (fun a i k => if a = 53 ∧ i = 0 ∧ q + n ≤ k + m ∧ k < q + n then μ.1 53 0 (p + (k - q)) else μ.1 a i k, μ.2)
theorem cpU_0 (μ : sM) (p q : Nat) : cpU μ p q 0 = μ := by
  refine Prod.ext ?_ rfl
  funext a i k
  exact if_neg (fun z => by omega)
theorem cpD_0 (μ : sM) (p q n : Nat) : cpD μ p q n 0 = μ := by
  refine Prod.ext ?_ rfl
  funext a i k
  exact if_neg (fun z => by omega)
theorem cpUD (μ : sM) (p q n : Nat) : cpD μ p q n n = cpU μ p q n := by
  refine Prod.ext ?_ rfl
  funext a i k
  show (if a = 53 ∧ i = 0 ∧ q + n ≤ k + n ∧ k < q + n then μ.1 53 0 (p + (k - q)) else μ.1 a i k) = if a = 53 ∧ i = 0 ∧ q ≤ k ∧ k < q + n then μ.1 53 0 (p + (k - q)) else μ.1 a i k
  by_cases e : a = 53 ∧ i = 0 ∧ q ≤ k ∧ k < q + n
  · rw [if_pos e, if_pos ⟨e.1, e.2.1, by omega, by omega⟩]
  · rw [if_neg e, if_neg (fun z => e ⟨z.1, z.2.1, by omega, by omega⟩)]
theorem cpU_s {μ : sM} {p q m : Nat} (h : ¬ (q ≤ p + m ∧ p + m < q + m)) : m_i (cpU μ p q m) 53 0 (q + m) ((cpU μ p q m).1 53 0 (p + m)) = cpU μ p q (m + 1) := by
  refine Prod.ext ?_ rfl
  funext a i k
  show (if a = 53 ∧ i = 0 ∧ k = q + m then (if 53 = 53 ∧ 0 = 0 ∧ q ≤ p + m ∧ p + m < q + m then μ.1 53 0 (p + (p + m - q)) else μ.1 53 0 (p + m)) else (if a = 53 ∧ i = 0 ∧ q ≤ k ∧ k < q + m then μ.1 53 0 (p + (k - q)) else μ.1 a i k)) = if a = 53 ∧ i = 0 ∧ q ≤ k ∧ k < q + (m + 1) then μ.1 53 0 (p + (k - q)) else μ.1 a i k
  by_cases e : a = 53 ∧ i = 0 ∧ k = q + m
  · rw [if_pos e, if_neg (fun z => h z.2.2), if_pos ⟨e.1, e.2.1, by omega, by omega⟩, show k - q = m by omega]
  · rw [if_neg e]
    by_cases e2 : a = 53 ∧ i = 0 ∧ q ≤ k ∧ k < q + m
    · rw [if_pos e2, if_pos ⟨e2.1, e2.2.1, e2.2.2.1, by omega⟩]
    · rw [if_neg e2, if_neg (fun z => e2 ⟨z.1, z.2.1, z.2.2.1, by have : k ≠ q + m := fun r => e ⟨z.1, z.2.1, r⟩; omega⟩)]
theorem cpD_s {μ : sM} {p q n m : Nat} (hm : m < n) (h : ¬ (q + n ≤ p + (n - 1 - m) + m ∧ p + (n - 1 - m) < q + n)) : m_i (cpD μ p q n m) 53 0 (q + (n - 1 - m)) ((cpD μ p q n m).1 53 0 (p + (n - 1 - m))) = cpD μ p q n (m + 1) := by
  refine Prod.ext ?_ rfl
  funext a i k
  show (if a = 53 ∧ i = 0 ∧ k = q + (n - 1 - m) then (if 53 = 53 ∧ 0 = 0 ∧ q + n ≤ p + (n - 1 - m) + m ∧ p + (n - 1 - m) < q + n then μ.1 53 0 (p + (p + (n - 1 - m) - q)) else μ.1 53 0 (p + (n - 1 - m))) else (if a = 53 ∧ i = 0 ∧ q + n ≤ k + m ∧ k < q + n then μ.1 53 0 (p + (k - q)) else μ.1 a i k)) = if a = 53 ∧ i = 0 ∧ q + n ≤ k + (m + 1) ∧ k < q + n then μ.1 53 0 (p + (k - q)) else μ.1 a i k
  by_cases e : a = 53 ∧ i = 0 ∧ k = q + (n - 1 - m)
  · rw [if_pos e, if_neg (fun z => h z.2.2), if_pos ⟨e.1, e.2.1, by omega, by omega⟩, show k - q = n - 1 - m by omega]
  · rw [if_neg e]
    by_cases e2 : a = 53 ∧ i = 0 ∧ q + n ≤ k + m ∧ k < q + n
    · rw [if_pos e2, if_pos ⟨e2.1, e2.2.1, by omega, by omega⟩]
    · rw [if_neg e2, if_neg (fun z => e2 ⟨z.1, z.2.1, by have : k ≠ q + (n - 1 - m) := fun r => e ⟨z.1, z.2.1, r⟩; omega, by omega⟩)]
section OP
variable {d n k c s a b r u o i rel κ : Nat} {μ μ' : sM} {Q : sQ} {la mn : Nat → Nat} {it : Nat → Int32} {x y z w v u' : Int32} {ξ : Nat → Nat → Int32}
theorem nI_043 (s i k : Nat) : 40 * nI s + nI i + nI k = nI (40 * s + i + k) := by
  rw [nI_04, nI_add]
theorem op_copy (hI : INV ξ μ) (h : ∀ v μ', opQ ξ (d + 20) n12_copy [sR 41 0, sI x, sI y, sI z, sI w, sI u'] v μ' → Q v 0 (0, 0) μ') : Call (d + 20) n11_copy [sR 0 0, sI x, sI y, sI z, sI w, sI u'] μ Q := by
  obtain ⟨la, mn, it, g1, g2, g3⟩ := hI.sg
  by_cases hb : (∃ s, s < 8 ∧ x = nI s) ∧ (∃ l, l < 8 ∧ z = nI l)
  · obtain ⟨⟨a, ha, rfl⟩, ⟨b, hb, rfl⟩⟩ := hb
    have ga := g1 a ha
    have gb := g1 b hb
    have ra := g3.1 a ha
    have rb := g3.1 b hb
    refine call_go (cd := k11_copy) 70 rfl rfl ?_
    refine c11_isWithin (b := 8) rfl rfl (by omega) (by decide) (fun _ => ?_) (fun z => by omega)
    refine brF (by decide) ?_
    refine c11_isWithin (b := 8) rfl rfl (by omega) (by decide) (fun _ => ?_) (fun z => by omega)
    refine brnF (by decide) ?_
    by_cases hp : la a ≠ 9 ∧ la b ≠ 9
    · refine c6_isMissing rfl ha g1 g2 (fun e => absurd e hp.1) (fun _ => ?_)
      refine brnT rfl ?_
      refine c6_isMissing rfl hb g1 g2 (fun e => absurd e hp.2) (fun _ => ?_)
      refine brT rfl ?_
      refine c6_laneOf rfl ha g2 ?_
      refine c6_laneOf rfl hb g2 ?_
      have la1 : 0 ≤ m9 (la a) := by rw [m9_n hp.1]; exact (by simp (disch := first | omega | (simp (disch := omega) only [nI_toInt, Int32.reduceToInt, i_sub, i_add, i_mul]; omega)) only [iNONE, i_lt, i_le, i_eq, i_in, nI_toInt, Int32.reduceToInt, i_sub, i_add, i_mul]; omega)
      have lb1 : 0 ≤ m9 (la b) := by rw [m9_n hp.2]; exact (by simp (disch := first | omega | (simp (disch := omega) only [nI_toInt, Int32.reduceToInt, i_sub, i_add, i_mul]; omega)) only [iNONE, i_lt, i_le, i_eq, i_in, nI_toInt, Int32.reduceToInt, i_sub, i_add, i_mul]; omega)
      by_cases hl : m9 (la a) = m9 (la b)
      · refine brT hl ?_
        have ry := i_rng y
        have rw' := i_rng w
        have ru := i_rng u'
        by_cases hsp : (0 ≤ y.toInt ∧ 0 ≤ u'.toInt ∧ y.toInt + u'.toInt ≤ mn a) ∧ (0 ≤ w.toInt ∧ 0 ≤ u'.toInt ∧ w.toInt + u'.toInt ≤ mn b)
        · refine c6_spans rfl ha g1 g2 hp.1 (fun _ => ?_) (fun e => absurd hsp.1 e)
          refine brF (by decide) ?_
          refine c6_spans rfl hb g1 g2 hp.2 (fun _ => ?_) (fun e => absurd hsp.2 e)
          refine brnF (by decide) ?_
          obtain ⟨n, hn, rfl⟩ := nI_ofB (x := u') (b := 41) (by omega) (by omega)
          obtain ⟨i, hi, rfl⟩ := nI_ofB (x := y) (b := 41) (by omega) (by omega)
          obtain ⟨j, hj, rfl⟩ := nI_ofB (x := w) (b := 41) (by omega) (by omega)
          simp (disch := omega) only [nI_toInt] at hsp
          refine c6_carry rfl rfl ha hb g1 g2 hp.1 hp.2 rfl rfl rfl (by omega) (by omega) ?_
          refine c11_foundNothing ?_
          refine h _ _ (fun Q hq => ?_)
          have hq' : Q (nI n) 0 (0, 0) (cpU (m_i (m_i (m_i (m_c μ 4 0 (40 * a + i) 4 0 (40 * b + j) n) 0 0 11 0) 41 0 0 0) 41 0 1 0) (40 * a + i) (40 * b + j) n) := by
            refine hq _ (hI.sh ?_ rfl ⟨la, mn, fun q => if 40 * b + j ≤ q ∧ q < 40 * b + j + n then it (40 * a + i + (q - (40 * b + j))) else it q, g1, ?_, ?_⟩ rfl)
            · intro a i k z
              have z1 : ¬ fS a i k := z.2.1
              have z2 : ¬ fF a i k := z.2.2
              have z3 : ¬ (a = 41 ∧ k = 0) := fun q => by obtain ⟨rfl, rfl⟩ := q; have := z.1; unfold fT fO fS fR fN fP fX fF fL at this; omega
              unfold fS at z1
              unfold fF at z2
              refine (if_neg (fun q => by omega)).trans ?_
              rw [mi_n (by omega), mi_n (by omega), mi_n (by omega)]
              exact if_neg (fun q => by omega)
            · refine ⟨fun q hq' => g2.1 q hq', fun q hq' => ?_⟩
              show (if 4 = 4 ∧ 0 = 0 then va_cpy (μ.1 4 0) (μ.1 4 0) (40 * a + i) (40 * b + j) n q else μ.1 4 0 q) = if 40 * b + j ≤ q ∧ q < 40 * b + j + n then it (40 * a + i + (q - (40 * b + j))) else it q
              rw [if_pos ⟨rfl, rfl⟩]
              unfold va_cpy
              by_cases e : 40 * b + j ≤ q ∧ q < 40 * b + j + n
              · rw [if_pos e, if_pos e]; exact g2.2 _ (by omega)
              · rw [if_neg e, if_neg e]; exact g2.2 q hq'
            · refine ⟨fun q hq' => g3.1 q hq', fun q hq' => ?_⟩
              show (if 53 = 53 ∧ 0 = 0 ∧ 40 * b + j ≤ q ∧ q < 40 * b + j + n then μ.1 53 0 (40 * a + i + (q - (40 * b + j))) else μ.1 53 0 q) = if 40 * b + j ≤ q ∧ q < 40 * b + j + n then it (40 * a + i + (q - (40 * b + j))) else it q
              by_cases e : 40 * b + j ≤ q ∧ q < 40 * b + j + n
              · rw [if_pos (⟨rfl, rfl, e⟩ : 53 = 53 ∧ 0 = 0 ∧ 40 * b + j ≤ q ∧ q < 40 * b + j + n), if_pos e]; exact g3.2 _ (by omega)
              · rw [if_neg (fun q' => e q'.2.2 : ¬ (53 = 53 ∧ 0 = 0 ∧ 40 * b + j ≤ q ∧ q < 40 * b + j + n)), if_neg e]; exact g3.2 q hq'
          have ra' : (m_i (m_i (m_i (m_c μ 4 0 (40 * a + i) 4 0 (40 * b + j) n) 0 0 11 0) 41 0 0 0) 41 0 1 0).1 51 0 a = m9 (la a) := ra.1
          have rb' : (m_i (m_i (m_i (m_c μ 4 0 (40 * a + i) 4 0 (40 * b + j) n) 0 0 11 0) 41 0 0 0) 41 0 1 0).1 51 0 b = m9 (la b) := rb.1
          have qa' : (m_i (m_i (m_i (m_c μ 4 0 (40 * a + i) 4 0 (40 * b + j) n) 0 0 11 0) 41 0 0 0) 41 0 1 0).1 52 0 a = nI (mn a) := ra.2 hp.1
          have qb' : (m_i (m_i (m_i (m_c μ 4 0 (40 * a + i) 4 0 (40 * b + j) n) 0 0 11 0) 41 0 0 0) 41 0 1 0).1 52 0 b = nI (mn b) := rb.2 hp.2
          generalize m_i (m_c μ 4 0 (40 * a + i) 4 0 (40 * b + j) n) 0 0 11 0 = M at hq' ra' rb' qa' qb' ⊢
          refine call_go (cd := k12_copy) 6 rfl rfl ?_
          refine r12_sheetY ha ?_
          refine brF (by decide) ?_
          refine run_go 3 ?_
          refine r12_sheetY hb ?_
          refine brnF (by decide) ?_
          refine run_go 8 ?_
          refine And.intro (by simp (disch := first | omega | (simp (disch := omega) only [nI_toInt, Int32.reduceToInt, i_sub, i_add, i_mul]; omega)) only [iNONE, i_lt, i_le, i_eq, i_in, nI_toInt, Int32.reduceToInt, i_sub, i_add, i_mul]; omega) ?_
          rw [nI_clamp (by omega), ra']
          refine brF (by simp only [i_lt, i_le] at la1 ⊢; omega) ?_
          refine run_go 5 ?_
          refine And.intro (by simp (disch := first | omega | (simp (disch := omega) only [nI_toInt, Int32.reduceToInt, i_sub, i_add, i_mul]; omega)) only [iNONE, i_lt, i_le, i_eq, i_in, nI_toInt, Int32.reduceToInt, i_sub, i_add, i_mul]; omega) ?_
          rw [nI_clamp (by omega), rb']
          refine brT lb1 ?_
          refine run_go 9 ?_
          refine And.intro (by simp (disch := first | omega | (simp (disch := omega) only [nI_toInt, Int32.reduceToInt, i_sub, i_add, i_mul]; omega)) only [iNONE, i_lt, i_le, i_eq, i_in, nI_toInt, Int32.reduceToInt, i_sub, i_add, i_mul]; omega) ?_
          refine And.intro (by simp (disch := first | omega | (simp (disch := omega) only [nI_toInt, Int32.reduceToInt, i_sub, i_add, i_mul]; omega)) only [iNONE, i_lt, i_le, i_eq, i_in, nI_toInt, Int32.reduceToInt, i_sub, i_add, i_mul]; omega) ?_
          rw [nI_clamp (by omega), nI_clamp (by omega), ra', rb']
          refine brT hl ?_
          refine run_go 2 ?_
          refine brF (by simp (disch := first | omega | (simp (disch := omega) only [nI_toInt, Int32.reduceToInt, i_sub, i_add, i_mul]; omega)) only [iNONE, i_lt, i_le, i_eq, i_in, nI_toInt, Int32.reduceToInt, i_sub, i_add, i_mul]; omega) ?_
          refine run_go 2 ?_
          refine brF (by simp (disch := first | omega | (simp (disch := omega) only [nI_toInt, Int32.reduceToInt, i_sub, i_add, i_mul]; omega)) only [iNONE, i_lt, i_le, i_eq, i_in, nI_toInt, Int32.reduceToInt, i_sub, i_add, i_mul]; omega) ?_
          refine run_go 2 ?_
          refine brF (by simp (disch := first | omega | (simp (disch := omega) only [nI_toInt, Int32.reduceToInt, i_sub, i_add, i_mul]; omega)) only [iNONE, i_lt, i_le, i_eq, i_in, nI_toInt, Int32.reduceToInt, i_sub, i_add, i_mul]; omega) ?_
          refine run_go 12 ?_
          refine And.intro (by simp (disch := first | omega | (simp (disch := omega) only [nI_toInt, Int32.reduceToInt, i_sub, i_add, i_mul]; omega)) only [iNONE, i_lt, i_le, i_eq, i_in, nI_toInt, Int32.reduceToInt, i_sub, i_add, i_mul]; omega) ?_
          rw [nI_clamp (by omega), qa']
          refine brF (by rw [cmp_gt, j_add, j_of]; simp (disch := omega) only [nI_toInt]; omega) ?_
          refine run_go 12 ?_
          refine And.intro (by simp (disch := first | omega | (simp (disch := omega) only [nI_toInt, Int32.reduceToInt, i_sub, i_add, i_mul]; omega)) only [iNONE, i_lt, i_le, i_eq, i_in, nI_toInt, Int32.reduceToInt, i_sub, i_add, i_mul]; omega) ?_
          rw [nI_clamp (by omega), qb']
          refine brT (by rw [cmp_le, j_add, j_of]; simp (disch := omega) only [nI_toInt]; omega) ?_
          generalize m_i (m_i M 41 0 0 0) 41 0 1 0 = M2 at hq' ⊢
          refine run_go 3 ?_
          by_cases hup : j ≤ i
          · refine brF (by simp (disch := first | omega | (simp (disch := omega) only [nI_toInt, Int32.reduceToInt, i_sub, i_add, i_mul]; omega)) only [iNONE, i_lt, i_le, i_eq, i_in, nI_toInt, Int32.reduceToInt, i_sub, i_add, i_mul]; omega) ?_
            refine run_go 5 ?_
            have key : Run k12_copy (Call (d + 19)) Q 143 [some (sR 41 0), some (sI (nI a)), some (sI (nI i)), some (sI (nI b)), some (sI (nI j)), some (sI (nI n)), some (sI 1), some (sI 0)] [] (cpU M2 (40 * a + i) (40 * b + j) 0) := by
              refine loopF (cd := k12_copy) (d := d + 19) (Q := Q) n (fun _ q => [some (sR 41 0), some (sI (nI a)), some (sI (nI i)), some (sI (nI b)), some (sI (nI j)), some (sI (nI n)), some (sI 1), some (sI q)]) (fun m => cpU M2 (40 * a + i) (40 * b + j) m) 143 ?_ (fun m hm kk => ?_)
              · refine run_go 20 ?_
                refine brT (by simp (disch := first | omega | (simp (disch := omega) only [nI_toInt, Int32.reduceToInt, i_sub, i_add, i_mul]; omega)) only [iNONE, i_lt, i_le, i_eq, i_in, nI_toInt, Int32.reduceToInt, i_sub, i_add, i_mul]; omega) ?_
                exact hq'
              · have kk2 := run_sub kk (subL.app _ [some (sI (nI m))])
                refine run_go 3 ?_
                refine brF (by simp (disch := first | omega | (simp (disch := omega) only [nI_toInt, Int32.reduceToInt, i_sub, i_add, i_mul]; omega)) only [iNONE, i_lt, i_le, i_eq, i_in, nI_toInt, Int32.reduceToInt, i_sub, i_add, i_mul]; omega) ?_
                refine run_go 2 ?_
                refine brF (by decide) ?_
                refine run_go 25 ?_
                refine And.intro (by rw [nI_043]; exact vp_in_nI (by omega) (by decide)) ?_
                refine And.intro (by rw [nI_043]; exact vp_in_nI (by omega) (by decide)) ?_
                rw [nI_043, nI_043, nI_clamp (by omega), nI_clamp (by omega), cpU_s (by omega)]
                exact kk2
            rw [cpU_0] at key
            exact key
          · refine brT (by simp (disch := first | omega | (simp (disch := omega) only [nI_toInt, Int32.reduceToInt, i_sub, i_add, i_mul]; omega)) only [iNONE, i_lt, i_le, i_eq, i_in, nI_toInt, Int32.reduceToInt, i_sub, i_add, i_mul]; omega) ?_
            refine run_go 4 ?_
            have key : Run k12_copy (Call (d + 19)) Q 143 [some (sR 41 0), some (sI (nI a)), some (sI (nI i)), some (sI (nI b)), some (sI (nI j)), some (sI (nI n)), some (sI 0), some (sI 0)] [] (cpD M2 (40 * a + i) (40 * b + j) n 0) := by
              refine loopF (cd := k12_copy) (d := d + 19) (Q := Q) n (fun _ q => [some (sR 41 0), some (sI (nI a)), some (sI (nI i)), some (sI (nI b)), some (sI (nI j)), some (sI (nI n)), some (sI 0), some (sI q)]) (fun m => cpD M2 (40 * a + i) (40 * b + j) n m) 143 ?_ (fun m hm kk => ?_)
              · refine run_go 20 ?_
                refine brT (by simp (disch := first | omega | (simp (disch := omega) only [nI_toInt, Int32.reduceToInt, i_sub, i_add, i_mul]; omega)) only [iNONE, i_lt, i_le, i_eq, i_in, nI_toInt, Int32.reduceToInt, i_sub, i_add, i_mul]; omega) ?_
                rw [cpUD]
                exact hq'
              · have kk2 := run_sub kk (subL.app _ [some (sI (nI (n - 1 - m)))])
                have e5 : nI n - 1 - nI m = nI (n - 1 - m) := by
                  rw [show (1 : Int32) = nI 1 from rfl, nI_sub (by omega), nI_sub (by omega)]
                refine run_go 3 ?_
                refine brF (by simp (disch := first | omega | (simp (disch := omega) only [nI_toInt, Int32.reduceToInt, i_sub, i_add, i_mul]; omega)) only [iNONE, i_lt, i_le, i_eq, i_in, nI_toInt, Int32.reduceToInt, i_sub, i_add, i_mul]; omega) ?_
                refine run_go 2 ?_
                refine brT rfl ?_
                refine run_go 28 ?_
                refine And.intro (by rw [e5, nI_043]; exact vp_in_nI (by omega) (by decide)) ?_
                refine And.intro (by rw [e5, nI_043]; exact vp_in_nI (by omega) (by decide)) ?_
                rw [e5, nI_043, nI_043, nI_clamp (by omega), nI_clamp (by omega), cpD_s hm (by omega)]
                exact kk2
            rw [cpD_0] at key
            exact key
        · have hF : Q (-1000012) 0 (0, 0) (m_i μ 0 0 11 2) := by
            refine h _ _ (fun Q hq => ?_)
            have hq' := hq _ (hI.find (x := 2) (y := 2) rfl)
            refine call_go (cd := k12_copy) 90 rfl rfl ?_
            refine r12_sheetY ha ?_
            refine brF (by decide) ?_
            refine r12_sheetY hb ?_
            refine brnF (by decide) ?_
            refine And.intro (by simp (disch := first | omega | (simp (disch := omega) only [nI_toInt, Int32.reduceToInt, i_sub, i_add, i_mul]; omega)) only [iNONE, i_lt, i_le, i_eq, i_in, nI_toInt, Int32.reduceToInt, i_sub, i_add, i_mul]; omega) ?_
            rw [nI_clamp (by omega)]
            refine brF (show ¬ μ.1 51 0 a < 0 from by rw [ra.1]; simp only [i_lt, i_le] at la1 ⊢; omega) ?_
            refine And.intro (by simp (disch := first | omega | (simp (disch := omega) only [nI_toInt, Int32.reduceToInt, i_sub, i_add, i_mul]; omega)) only [iNONE, i_lt, i_le, i_eq, i_in, nI_toInt, Int32.reduceToInt, i_sub, i_add, i_mul]; omega) ?_
            rw [nI_clamp (by omega)]
            refine brT (show 0 ≤ μ.1 51 0 b from by rw [rb.1]; exact lb1) ?_
            refine And.intro (by simp (disch := first | omega | (simp (disch := omega) only [nI_toInt, Int32.reduceToInt, i_sub, i_add, i_mul]; omega)) only [iNONE, i_lt, i_le, i_eq, i_in, nI_toInt, Int32.reduceToInt, i_sub, i_add, i_mul]; omega) ?_
            refine And.intro (by simp (disch := first | omega | (simp (disch := omega) only [nI_toInt, Int32.reduceToInt, i_sub, i_add, i_mul]; omega)) only [iNONE, i_lt, i_le, i_eq, i_in, nI_toInt, Int32.reduceToInt, i_sub, i_add, i_mul]; omega) ?_
            rw [nI_clamp (by omega), nI_clamp (by omega)]
            refine brT (show μ.1 51 0 a = μ.1 51 0 b from by rw [ra.1, rb.1]; exact hl) ?_
            by_cases c1 : y.toInt < 0
            · refine brT (by simp (disch := first | omega | (simp (disch := omega) only [nI_toInt, Int32.reduceToInt, i_sub, i_add, i_mul]; omega)) only [iNONE, i_lt, i_le, i_eq, i_in, nI_toInt, Int32.reduceToInt, i_sub, i_add, i_mul]; omega) ?_
              refine r12_finding ?_
              exact hq'
            · refine brF (by simp (disch := first | omega | (simp (disch := omega) only [nI_toInt, Int32.reduceToInt, i_sub, i_add, i_mul]; omega)) only [iNONE, i_lt, i_le, i_eq, i_in, nI_toInt, Int32.reduceToInt, i_sub, i_add, i_mul]; omega) ?_
              by_cases c2 : w.toInt < 0
              · refine brT (by simp (disch := first | omega | (simp (disch := omega) only [nI_toInt, Int32.reduceToInt, i_sub, i_add, i_mul]; omega)) only [iNONE, i_lt, i_le, i_eq, i_in, nI_toInt, Int32.reduceToInt, i_sub, i_add, i_mul]; omega) ?_
                refine r12_finding ?_
                exact hq'
              · refine brF (by simp (disch := first | omega | (simp (disch := omega) only [nI_toInt, Int32.reduceToInt, i_sub, i_add, i_mul]; omega)) only [iNONE, i_lt, i_le, i_eq, i_in, nI_toInt, Int32.reduceToInt, i_sub, i_add, i_mul]; omega) ?_
                by_cases c3 : u'.toInt < 0
                · refine brT (by simp (disch := first | omega | (simp (disch := omega) only [nI_toInt, Int32.reduceToInt, i_sub, i_add, i_mul]; omega)) only [iNONE, i_lt, i_le, i_eq, i_in, nI_toInt, Int32.reduceToInt, i_sub, i_add, i_mul]; omega) ?_
                  refine r12_finding ?_
                  exact hq'
                · refine brF (by simp (disch := first | omega | (simp (disch := omega) only [nI_toInt, Int32.reduceToInt, i_sub, i_add, i_mul]; omega)) only [iNONE, i_lt, i_le, i_eq, i_in, nI_toInt, Int32.reduceToInt, i_sub, i_add, i_mul]; omega) ?_
                  refine And.intro (by simp (disch := first | omega | (simp (disch := omega) only [nI_toInt, Int32.reduceToInt, i_sub, i_add, i_mul]; omega)) only [iNONE, i_lt, i_le, i_eq, i_in, nI_toInt, Int32.reduceToInt, i_sub, i_add, i_mul]; omega) ?_
                  rw [nI_clamp (by omega)]
                  have qa : (m_i (m_i (m_i μ 0 0 11 2) 41 0 0 0) 41 0 1 0).1 52 0 a = nI (mn a) := ra.2 hp.1
                  have qb : (m_i (m_i (m_i μ 0 0 11 2) 41 0 0 0) 41 0 1 0).1 52 0 b = nI (mn b) := rb.2 hp.2
                  rw [qa]
                  by_cases c4 : (mn a : Int) < y.toInt + u'.toInt
                  · refine brT (by rw [cmp_gt, j_add, j_of]; simp (disch := omega) only [nI_toInt]; omega) ?_
                    refine r12_finding ?_
                    exact hq'
                  · refine brF (by rw [cmp_gt, j_add, j_of]; simp (disch := omega) only [nI_toInt]; omega) ?_
                    refine And.intro (by simp (disch := first | omega | (simp (disch := omega) only [nI_toInt, Int32.reduceToInt, i_sub, i_add, i_mul]; omega)) only [iNONE, i_lt, i_le, i_eq, i_in, nI_toInt, Int32.reduceToInt, i_sub, i_add, i_mul]; omega) ?_
                    rw [nI_clamp (by omega), qb]
                    refine brF (by rw [cmp_le, j_add, j_of]; simp (disch := omega) only [nI_toInt]; omega) ?_
                    refine r12_finding ?_
                    exact hq'
          refine c6_spans rfl ha g1 g2 hp.1 (fun e1 => ?_) (fun _ => ?_)
          · refine brF (by decide) ?_
            refine c6_spans rfl hb g1 g2 hp.2 (fun e2 => absurd ⟨e1, e2⟩ hsp) (fun _ => ?_)
            refine brnT rfl ?_
            refine c11_found ?_
            exact hF
          · refine brT rfl ?_
            refine c11_found ?_
            exact hF
      · refine brF hl ?_
        refine c11_found ?_
        refine h _ _ (fun Q hq => ?_)
        refine call_go (cd := k12_copy) 70 rfl rfl ?_
        refine r12_sheetY ha ?_
        refine brF (by decide) ?_
        refine r12_sheetY hb ?_
        refine brnF (by decide) ?_
        refine And.intro (by simp (disch := first | omega | (simp (disch := omega) only [nI_toInt, Int32.reduceToInt, i_sub, i_add, i_mul]; omega)) only [iNONE, i_lt, i_le, i_eq, i_in, nI_toInt, Int32.reduceToInt, i_sub, i_add, i_mul]; omega) ?_
        rw [nI_clamp (by omega)]
        refine brF (show ¬ μ.1 51 0 a < 0 from by rw [ra.1]; simp only [i_lt, i_le] at la1 ⊢; omega) ?_
        refine And.intro (by simp (disch := first | omega | (simp (disch := omega) only [nI_toInt, Int32.reduceToInt, i_sub, i_add, i_mul]; omega)) only [iNONE, i_lt, i_le, i_eq, i_in, nI_toInt, Int32.reduceToInt, i_sub, i_add, i_mul]; omega) ?_
        rw [nI_clamp (by omega)]
        refine brT (show 0 ≤ μ.1 51 0 b from by rw [rb.1]; exact lb1) ?_
        refine And.intro (by simp (disch := first | omega | (simp (disch := omega) only [nI_toInt, Int32.reduceToInt, i_sub, i_add, i_mul]; omega)) only [iNONE, i_lt, i_le, i_eq, i_in, nI_toInt, Int32.reduceToInt, i_sub, i_add, i_mul]; omega) ?_
        refine And.intro (by simp (disch := first | omega | (simp (disch := omega) only [nI_toInt, Int32.reduceToInt, i_sub, i_add, i_mul]; omega)) only [iNONE, i_lt, i_le, i_eq, i_in, nI_toInt, Int32.reduceToInt, i_sub, i_add, i_mul]; omega) ?_
        rw [nI_clamp (by omega), nI_clamp (by omega)]
        refine brF (show ¬ μ.1 51 0 a = μ.1 51 0 b from by rw [ra.1, rb.1]; exact hl) ?_
        refine r12_finding ?_
        exact hq _ (hI.find rfl)
    · have hF : Q (-1000011) 0 (0, 0) (m_i μ 0 0 11 1) := by
        refine h _ _ (fun Q hq => ?_)
        have hq' := hq _ (hI.find (x := 1) (y := 1) rfl)
        refine call_go (cd := k12_copy) 90 rfl rfl ?_
        refine r12_sheetY ha ?_
        refine brF (by decide) ?_
        refine r12_sheetY hb ?_
        refine brnF (by decide) ?_
        refine And.intro (by simp (disch := first | omega | (simp (disch := omega) only [nI_toInt, Int32.reduceToInt, i_sub, i_add, i_mul]; omega)) only [iNONE, i_lt, i_le, i_eq, i_in, nI_toInt, Int32.reduceToInt, i_sub, i_add, i_mul]; omega) ?_
        rw [nI_clamp (by omega)]
        by_cases e : la a = 9
        · refine brT (show μ.1 51 0 a < 0 from by rw [ra.1, e]; decide) ?_
          refine r12_finding ?_
          exact hq'
        · refine brF (show ¬ μ.1 51 0 a < 0 from by rw [ra.1, m9_n e]; exact (by simp (disch := first | omega | (simp (disch := omega) only [nI_toInt, Int32.reduceToInt, i_sub, i_add, i_mul]; omega)) only [iNONE, i_lt, i_le, i_eq, i_in, nI_toInt, Int32.reduceToInt, i_sub, i_add, i_mul]; omega)) ?_
          refine And.intro (by simp (disch := first | omega | (simp (disch := omega) only [nI_toInt, Int32.reduceToInt, i_sub, i_add, i_mul]; omega)) only [iNONE, i_lt, i_le, i_eq, i_in, nI_toInt, Int32.reduceToInt, i_sub, i_add, i_mul]; omega) ?_
          rw [nI_clamp (by omega)]
          refine brF (show ¬ 0 ≤ μ.1 51 0 b from by rw [rb.1, show la b = 9 by omega]; decide) ?_
          refine r12_finding ?_
          exact hq'
      refine c6_isMissing rfl ha g1 g2 (fun e => ?_) (fun e => ?_)
      · refine brnF (by decide) ?_
        refine c11_found ?_
        exact hF
      · refine brnT rfl ?_
        refine c6_isMissing rfl hb g1 g2 (fun e2 => ?_) (fun e2 => absurd ⟨e, e2⟩ hp)
        refine brF (by decide) ?_
        refine c11_found ?_
        exact hF
  · have hB : Q (-1000001) 0 (0, 0) μ := by
      refine h _ _ (fun Q hq => ?_)
      have hq' := hq _ hI.th
      refine call_go (cd := k12_copy) 60 rfl rfl ?_
      refine r12_isSheet (fun s hs e1 => ?_) (fun q => ?_)
      · refine brF (by decide) ?_
        refine r12_isSheet (fun l hl e2 => absurd ⟨⟨s, hs, e1⟩, ⟨l, hl, e2⟩⟩ hb) (fun q => ?_)
        refine brnT rfl ?_
        exact hq'
      · refine brT rfl ?_
        exact hq'
    refine call_go (cd := k11_copy) 60 rfl rfl ?_
    refine c11_within (b := 8) rfl (by decide) (fun s hs e1 => ?_) (fun _ => ?_)
    · refine brF (by decide) ?_
      refine c11_within (b := 8) rfl (by decide) (fun l hl e2 => absurd ⟨⟨s, hs, e1⟩, ⟨l, hl, e2⟩⟩ hb) (fun _ => ?_)
      refine brnT rfl ?_
      exact hB
    · refine brT rfl ?_
      exact hB
end OP
