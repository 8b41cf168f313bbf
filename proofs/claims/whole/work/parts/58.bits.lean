/-! sets as bits; how many stand; count -/
/-- the first m of f, as bits -/
def stB (f : Nat → Nat) (m : Nat) : Nat := sumN (fun l => f l * 2 ^ l) m
def pop (S : Nat) : Nat := sumN (fun k => S / 2 ^ k % 2) 8
theorem stB_lt {f : Nat → Nat} : ∀ {m : Nat}, (∀ l, l < m → f l < 2) → stB f m < 2 ^ m
  | 0, _ => Nat.one_pos
  | m + 1, h => by
    have h1 := stB_lt (f := f) (m := m) (fun l hl => h l (by omega))
    have h2 := h m (by omega)
    show stB f m + f m * 2 ^ m < 2 ^ (m + 1)
    rw [Nat.pow_succ]
    have : f m = 0 ∨ f m = 1 := by omega
    rcases this with e | e
    · rw [e]; omega
    · rw [e]; omega
theorem stB_bit {f : Nat → Nat} : ∀ {m : Nat}, (∀ l, l < m → f l < 2) → ∀ k, stB f m / 2 ^ k % 2 = if k < m then f k else 0
  | 0, _, k => by
    show 0 / 2 ^ k % 2 = _
    rw [Nat.zero_div, if_neg (Nat.not_lt_zero k)]
  | m + 1, h, k => by
    have ih := stB_bit (f := f) (m := m) (fun l hl => h l (by omega)) k
    have hl := stB_lt (f := f) (m := m) (fun l hl => h l (by omega))
    have h2 := h m (by omega)
    show (stB f m + f m * 2 ^ m) / 2 ^ k % 2 = _
    by_cases e : k < m
    · rw [if_pos (by omega)]
      rw [if_pos e] at ih
      have e2 : f m * 2 ^ m = 2 ^ k * (f m * 2 ^ (m - k - 1) * 2) := by
        have : 2 ^ m = 2 ^ k * (2 ^ (m - k - 1) * 2) := by rw [← Nat.pow_succ, ← Nat.pow_add]; congr 1; omega
        rw [this, ← Nat.mul_assoc, Nat.mul_comm (f m), Nat.mul_assoc, Nat.mul_assoc]
      rw [e2, Nat.add_mul_div_left _ _ (Nat.two_pow_pos k), Nat.add_mul_mod_self_right]
      exact ih
    · by_cases e1 : k = m
      · subst e1
        rw [if_pos (by omega), Nat.add_mul_div_right _ _ (Nat.two_pow_pos k), Nat.div_eq_of_lt hl, Nat.zero_add]
        omega
      · rw [if_neg (by omega)]
        have hl2 := stB_lt (f := f) (m := m + 1) h
        have e2 : stB f m + f m * 2 ^ m < 2 ^ k := Nat.lt_of_lt_of_le hl2 (Nat.pow_le_pow_right (by decide) (by omega))
        rw [Nat.div_eq_of_lt e2]
theorem sumN_eq {f g : Nat → Nat} : ∀ {m : Nat}, (∀ l, l < m → f l = g l) → sumN f m = sumN g m
  | 0, _ => rfl
  | m + 1, h => by
    show sumN f m + f m = sumN g m + g m
    rw [sumN_eq (fun l hl => h l (by omega)), h m (by omega)]
theorem sumN_if {f : Nat → Nat} {m : Nat} : ∀ {k : Nat}, m ≤ k → sumN (fun l => if l < m then f l else 0) k = sumN f m
  | 0, h => by rw [show m = 0 by omega]; rfl
  | k + 1, h => by
    show sumN (fun l => if l < m then f l else 0) k + (if k < m then f k else 0) = sumN f m
    by_cases e : m = k + 1
    · subst e
      rw [if_pos (by omega), sumN_eq (g := f) (fun l hl => if_pos (by omega))]
      rfl
    · rw [if_neg (by omega), Nat.add_zero]
      exact sumN_if (by omega)
theorem pop_stB {f : Nat → Nat} {m : Nat} (hm : m ≤ 8) (h : ∀ l, l < m → f l < 2) : pop (stB f m) = sumN f m := by
  unfold pop
  rw [sumN_eq (g := fun l => if l < m then f l else 0) (fun k _ => stB_bit h k)]
  exact sumN_if hm
theorem or_key : ∀ l, l < 8 → ∀ S, S < 256 → S < 2 ^ l → nI S ||| (1 <<< (nI l &&& 31)) = nI (S + 2 ^ l) := by decide +kernel
theorem bit_key : ∀ k, k < 8 → ∀ S, S < 256 → (nI S >>> (nI k &&& 31)) &&& 1 = nI (S / 2 ^ k % 2) := by decide +kernel
theorem stB_256 {f : Nat → Nat} {m : Nat} (hm : m ≤ 8) (h : ∀ l, l < m → f l < 2) : stB f m < 256 := Nat.lt_of_lt_of_le (stB_lt h) (Nat.le_trans (Nat.pow_le_pow_right (by decide) hm) (by decide))
theorem or_0 (x : Int32) : x ||| 0 = x := Int32.or_zero
theorem pop_le {S m : Nat} : sumN (fun k => S / 2 ^ k % 2) m ≤ m := by
  have := sumN_le (f := fun k => S / 2 ^ k % 2) (b := 1) (n := m) (fun i _ => by have := Nat.mod_lt (S / 2 ^ i) (show 0 < 2 by decide); omega)
  omega
section OP
variable {d n k c s a b r u o i rel κ lr t p lm S : Nat} {μ μ' : sM} {Q : sQ} {so wt rc st en no te sd : Nat → Nat} {T T' : tT} {tb : Nat → tT} {x y z w v : Int32} {ξ : Nat → Nat → Int32}
theorem r12_bits (hx : x = nI S) (hS : S < 256) (h : Q (nI (pop S)) 0 (0, 0) μ) : Call (d + 1) n12_bits [sI x] μ Q := by
  subst hx
  refine call_go (cd := k12_bits) 4 rfl rfl ?_
  refine loopF (cd := k12_bits) (d := d) (Q := Q) 8 (fun i j => [some (sI (nI S)), some (sI (nI (sumN (fun k => S / 2 ^ k % 2) i))), some (sI j)]) (fun _ => μ) 4 ?_ (fun i hi kk => ?_)
  · refine run_go 20 ?_
    refine brT (by decide) ?_
    exact h
  · refine run_go 3 ?_
    refine brF (by simp (disch := first | omega | (simp (disch := omega) only [nI_toInt, Int32.reduceToInt, i_sub, i_add, i_mul]; omega)) only [iNONE, i_lt, i_le, i_eq, i_in, nI_toInt, Int32.reduceToInt, i_sub, i_add, i_mul]; omega) ?_
    refine run_go 10 ?_
    rw [show sumN (fun k => S / 2 ^ k % 2) (i + 1) = sumN (fun k => S / 2 ^ k % 2) i + S / 2 ^ i % 2 from rfl, ← nI_add, ← bit_key i hi S hS] at kk
    exact kk
theorem r12_standing (hL : lsG μ κ lm st en no te sd) (h : Q (nI (stB sd lm)) 0 (0, 0) μ) : Call (d + 1) n12_standing [sR 41 0] μ Q := by
  have hm := hL.1
  refine call_go (cd := k12_standing) 4 rfl rfl ?_
  refine loopF (cd := k12_standing) (d := d) (Q := Q) lm (fun i j => [some (sR 41 0), some (sI (nI (stB sd i))), some (sI j)]) (fun _ => μ) 4 ?_ (fun i hi kk => ?_)
  · refine run_go 20 ?_
    refine brT (by simp (disch := first | omega | (simp (disch := omega) only [nI_toInt, Int32.reduceToInt, i_sub, i_add, i_mul]; omega)) only [hL.2.2.1, iNONE, i_lt, i_le, i_eq, i_in, nI_toInt, Int32.reduceToInt, i_sub, i_add, i_mul]; omega) ?_
    exact h
  · have h1 := (hL.2.2.2.1 i hi).2.2.2.2
    have h2 := (hL.2.2.2.2.2.1 i hi).2.2.2.2
    have h3 := stB_256 (f := sd) (m := i) (by omega) (fun l hl => (hL.2.2.2.1 l (by omega)).2.2.2.2)
    have h4 := stB_lt (f := sd) (m := i) (fun l hl => (hL.2.2.2.1 l (by omega)).2.2.2.2)
    rw [show stB sd (i + 1) = stB sd i + sd i * 2 ^ i from rfl] at kk
    refine run_go 4 ?_
    refine brF (by simp (disch := first | omega | (simp (disch := omega) only [nI_toInt, Int32.reduceToInt, i_sub, i_add, i_mul]; omega)) only [hL.2.2.1, iNONE, i_lt, i_le, i_eq, i_in, nI_toInt, Int32.reduceToInt, i_sub, i_add, i_mul]; omega) ?_
    refine run_go 6 ?_
    refine And.intro (by simp (disch := first | omega | (simp (disch := omega) only [nI_toInt, Int32.reduceToInt, i_sub, i_add, i_mul]; omega)) only [iNONE, i_lt, i_le, i_eq, i_in, nI_toInt, Int32.reduceToInt, i_sub, i_add, i_mul]; omega) ?_
    rw [nI_clamp (by omega), h2]
    by_cases e : sd i = 1
    · rw [e, Nat.one_mul, ← or_key i (by omega) _ h3 h4] at kk
      refine brT (by rw [e]; rfl) ?_
      refine run_go 7 ?_
      exact kk
    · rw [show sd i = 0 by omega, Nat.zero_mul, Nat.add_zero] at kk
      refine brF (by rw [show sd i = 0 by omega]; decide) ?_
      rw [← or_0 (nI (stB sd i))] at kk
      refine run_go 6 ?_
      exact kk
theorem c10_standing (hL : lsG μ κ lm st en no te sd) (h : Q (nI (sumN sd lm)) 0 (0, 0) μ) : Call (d + 1) n10_standing [sR 20 0] μ Q := by
  have hm := hL.1
  refine call_go (cd := k10_standing) 4 rfl rfl ?_
  refine loopF (cd := k10_standing) (d := d) (Q := Q) lm (fun i j => [some (sR 20 0), some (sI (nI (sumN sd i))), some (sI j)]) (fun _ => μ) 4 ?_ (fun i hi kk => ?_)
  · refine run_go 20 ?_
    refine brT (by simp (disch := first | omega | (simp (disch := omega) only [nI_toInt, Int32.reduceToInt, i_sub, i_add, i_mul]; omega)) only [hL.2.1, iNONE, i_lt, i_le, i_eq, i_in, nI_toInt, Int32.reduceToInt, i_sub, i_add, i_mul]; omega) ?_
    exact h
  · have h1 := (hL.2.2.2.1 i hi).2.2.2.2
    have h2 := (hL.2.2.2.2.1 i hi).2.2.2.2
    rw [show sumN sd (i + 1) = sumN sd i + sd i from rfl, ← nI_add] at kk
    refine run_go 4 ?_
    refine brF (by simp (disch := first | omega | (simp (disch := omega) only [nI_toInt, Int32.reduceToInt, i_sub, i_add, i_mul]; omega)) only [hL.2.1, iNONE, i_lt, i_le, i_eq, i_in, nI_toInt, Int32.reduceToInt, i_sub, i_add, i_mul]; omega) ?_
    refine run_go 6 ?_
    refine And.intro (by simp (disch := first | omega | (simp (disch := omega) only [nI_toInt, Int32.reduceToInt, i_sub, i_add, i_mul]; omega)) only [iNONE, i_lt, i_le, i_eq, i_in, nI_toInt, Int32.reduceToInt, i_sub, i_add, i_mul]; omega) ?_
    rw [nI_clamp (by omega), h2]
    by_cases e : sd i = 1
    · rw [e] at kk
      refine brF (by rw [e]; decide) ?_
      refine run_go 6 ?_
      exact kk
    · rw [show sd i = 0 by omega] at kk
      refine brT (by rw [show sd i = 0 by omega]; rfl) ?_
      refine run_go 5 ?_
      exact kk
theorem op_count (hI : INV ξ μ) (h : ∀ v μ', opQ ξ (d + 20) n12_count [sR 41 0, sI x] v μ' → Q v 0 (0, 0) μ') : Call (d + 20) n11_count [sR 0 0, sI x] μ Q := by
  have hI0 := hI
  obtain ⟨n, so, wt, κ, tb, lr, h1, h2, h3⟩ := hI0
  have g1 : tbG (m_i μ 41 0 0 0) n so wt κ tb := h1.fr (frm.rf.mi (by unfold fT; omega))
  have hw := h1.2.2.2.2.2.1 0 (Nat.zero_le _)
  have hC := h1.2.2.2.2.2.2.1
  have hS := h1.1
  have hn := hS.2.1
  have gR := g1.2.2.2.2.2.2.2.2 0 (Nat.zero_le _)
  have g3 : oth (m_i μ 41 0 0 0) κ ξ := h3.fr (frm.rf.mi (by unfold fO fS fR fN fP fX fF fL; omega))
  refine call_go (cd := k11_count) 60 rfl rfl ?_
  by_cases hx : ∃ a, a < 8 ∧ x = nI a
  · obtain ⟨a, ha, rfl⟩ := hx
    rcases (by omega : a = 0 ∨ a = 1 ∨ a = 2 ∨ a = 3 ∨ a = 4 ∨ a = 5 ∨ a = 6 ∨ a = 7) with rfl | rfl | rfl | rfl | rfl | rfl | rfl | rfl
    · (refine brT (by decide) ?_)
      obtain ⟨la, mn, it, q1, q2, q3⟩ := h3.1
      refine c6_present q1 q2 ?_
      refine h _ _ (fun Q hq => ?_)
      have hq := hq _ hI.th
      refine call_go (cd := k12_count) 7 rfl rfl ?_
      (refine brT (by decide) ?_)
      refine run_go 2 ?_
      refine loopF (cd := k12_count) (d := d + 19) (Q := Q) 8 (fun i j => [some (sR 41 0), some (sI (nI 0)), some (sI (nI (prS la i))), some (sI j)]) (fun _ => m_i μ 41 0 0 0) 58 ?_ (fun i hi kk => ?_)
      · refine run_go 20 ?_
        refine brT (by decide) ?_
        exact hq
      · have ql : (m_i μ 41 0 0 0).1 51 0 i = m9 (la i) := (q3.1 i hi).1
        rw [show prS la (i + 1) = prS la i + tB (la i ≠ 9) from rfl, ← nI_add] at kk
        refine run_go 3 ?_
        refine brF (by simp (disch := first | omega | (simp (disch := omega) only [nI_toInt, Int32.reduceToInt, i_sub, i_add, i_mul]; omega)) only [iNONE, i_lt, i_le, i_eq, i_in, nI_toInt, Int32.reduceToInt, i_sub, i_add, i_mul]; omega) ?_
        refine run_go 6 ?_
        refine And.intro (by simp (disch := first | omega | (simp (disch := omega) only [nI_toInt, Int32.reduceToInt, i_sub, i_add, i_mul]; omega)) only [iNONE, i_lt, i_le, i_eq, i_in, nI_toInt, Int32.reduceToInt, i_sub, i_add, i_mul]; omega) ?_
        rw [nI_clamp (by omega), ql]
        by_cases e : la i = 9
        · rw [tB_f (fun z => z e)] at kk
          refine brT (by rw [e]; decide) ?_
          refine run_go 5 ?_
          exact kk
        · rw [tB_t e] at kk
          refine brF (fun z => e ((m9_lt (q1 i hi).1).mp z)) ?_
          refine run_go 6 ?_
          exact kk
    · (refine brF (by decide) ?_; refine brT (by decide) ?_)
      refine c8_size hS ?_
      refine h _ _ (fun Q hq => ?_)
      refine call_go (cd := k12_count) 60 rfl rfl ?_
      (refine brF (by decide) ?_; refine brT (by decide) ?_)
      show Q ((m_i μ 41 0 0 0).1 41 0 3) 0 (0, 0) _
      rw [g1.2.1.1]
      exact hq _ hI.th
    · (refine brF (by decide) ?_; refine brF (by decide) ?_; refine brT (by decide) ?_)
      refine call_go (cd := k7_size) 60 rfl rfl ?_
      refine h _ _ (fun Q hq => ?_)
      refine call_go (cd := k12_count) 60 rfl rfl ?_
      (refine brF (by decide) ?_; refine brF (by decide) ?_; refine brT (by decide) ?_)
      show Q ((m_i μ 41 0 0 0).1 41 0 6) 0 (0, 0) _
      rw [g1.2.2.2.2.1, ← h1.2.2.2.1]
      exact hq _ hI.th
    · (refine brF (by decide) ?_; refine brF (by decide) ?_; refine brF (by decide) ?_; refine brT (by decide) ?_)
      obtain ⟨lm, st, en, no, te, sd, q⟩ := h3.2.2.2.2.2.2.1
      have q' : lsG (m_i μ 41 0 0 0) κ lm st en no te sd := q.fr (frm.rf.mi (by unfold fL; omega))
      have hsd : ∀ l, l < lm → sd l < 2 := fun l hl => (q.2.2.2.1 l hl).2.2.2.2
      refine c10_standing q ?_
      refine h _ _ (fun Q hq => ?_)
      refine call_go (cd := k12_count) 60 rfl rfl ?_
      (refine brF (by decide) ?_; refine brF (by decide) ?_; refine brF (by decide) ?_; refine brT (by decide) ?_)
      refine r12_standing q' ?_
      refine r12_bits rfl (stB_256 q.1 hsd) ?_
      rw [pop_stB q.1 hsd]
      exact hq _ hI.th
    · (refine brF (by decide) ?_; refine brF (by decide) ?_; refine brF (by decide) ?_; refine brF (by decide) ?_; refine brT (by decide) ?_)
      obtain ⟨nv, p, w, q, e0, e1, e2, e3, e4⟩ := h3.2.2.1
      refine call_go (cd := k5_size) 60 rfl rfl ?_
      refine h _ _ (fun Q hq => ?_)
      rw [e1] at hq
      refine call_go (cd := k12_count) 60 rfl rfl ?_
      (refine brF (by decide) ?_; refine brF (by decide) ?_; refine brF (by decide) ?_; refine brF (by decide) ?_; refine brT (by decide) ?_)
      show Q ((m_i μ 41 0 0 0).1 41 0 17) 0 (0, 0) _
      rw [show (m_i μ 41 0 0 0).1 41 0 17 = nI nv from e3]
      exact hq _ hI.th
    · (refine brF (by decide) ?_; refine brF (by decide) ?_; refine brF (by decide) ?_; refine brF (by decide) ?_; refine brF (by decide) ?_; refine brT (by decide) ?_)
      refine c9_shutBoxes hw hS hC ?_
      refine h _ _ (fun Q hq => ?_)
      have hq := hq _ hI.th
      refine call_go (cd := k12_count) 7 rfl rfl ?_
      (refine brF (by decide) ?_; refine brF (by decide) ?_; refine brF (by decide) ?_; refine brF (by decide) ?_; refine brF (by decide) ?_; refine brT (by decide) ?_)
      refine run_go 2 ?_
      refine loopF (cd := k12_count) (d := d + 19) (Q := Q) n (fun i j => [some (sR 41 0), some (sI (nI 5)), some (sI (nI (cnS so n (tb 0) i))), some (sI j)]) (fun _ => m_i μ 41 0 0 0) 114 ?_ (fun i hi kk => ?_)
      · refine run_go 20 ?_
        refine brT (by simp (disch := first | omega | (simp (disch := omega) only [nI_toInt, Int32.reduceToInt, i_sub, i_add, i_mul]; omega)) only [g1.2.1.1, iNONE, i_lt, i_le, i_eq, i_in, nI_toInt, Int32.reduceToInt, i_sub, i_add, i_mul]; omega) ?_
        exact hq
      · rw [show cnS so n (tb 0) (i + 1) = cnS so n (tb 0) i + tB (shT so n (tb 0) i) from rfl, ← nI_add] at kk
        have hs := hS.2.2 i hi
        refine run_go 4 ?_
        refine brF (by simp (disch := first | omega | (simp (disch := omega) only [nI_toInt, Int32.reduceToInt, i_sub, i_add, i_mul]; omega)) only [g1.2.1.1, iNONE, i_lt, i_le, i_eq, i_in, nI_toInt, Int32.reduceToInt, i_sub, i_add, i_mul]; omega) ?_
        refine run_go 4 ?_
        refine brnT rfl ?_
        refine run_go 5 ?_
        refine r12_kindOf rfl hw g1.2.1 gR hi ?_
        unfold kdT
        by_cases e : shT so n (tb 0) i
        · rw [tB_t e] at kk
          rw [if_neg (by have := e.1; omega), if_neg (by have := e.1; omega), if_pos e.1, tB_t e]
          refine brnT rfl ?_
          refine run_go 6 ?_
          exact kk
        · rw [tB_f e] at kk
          refine brnF (by
            rw [tB_f e]
            split
            · decide
            · split
              · decide
              · split <;> decide) ?_
          refine run_go 6 ?_
          exact kk
    · (refine brF (by decide) ?_; refine brF (by decide) ?_; refine brF (by decide) ?_; refine brF (by decide) ?_; refine brF (by decide) ?_; refine brF (by decide) ?_; refine brT (by decide) ?_)
      refine c9_clearThings hw hS hC ?_
      refine h _ _ (fun Q hq => ?_)
      have hq := hq _ hI.th
      refine call_go (cd := k12_count) 7 rfl rfl ?_
      (refine brF (by decide) ?_; refine brF (by decide) ?_; refine brF (by decide) ?_; refine brF (by decide) ?_; refine brF (by decide) ?_; refine brF (by decide) ?_; refine brT (by decide) ?_)
      refine run_go 2 ?_
      refine loopF (cd := k12_count) (d := d + 19) (Q := Q) n (fun i j => [some (sR 41 0), some (sI (nI 6)), some (sI (nI (cnC (tb 0) i))), some (sI j)]) (fun _ => m_i μ 41 0 0 0) 114 ?_ (fun i hi kk => ?_)
      · refine run_go 20 ?_
        refine brT (by simp (disch := first | omega | (simp (disch := omega) only [nI_toInt, Int32.reduceToInt, i_sub, i_add, i_mul]; omega)) only [g1.2.1.1, iNONE, i_lt, i_le, i_eq, i_in, nI_toInt, Int32.reduceToInt, i_sub, i_add, i_mul]; omega) ?_
        exact hq
      · rw [show cnC (tb 0) (i + 1) = cnC (tb 0) i + tB (clT' (tb 0) i) from rfl, ← nI_add] at kk
        refine run_go 4 ?_
        refine brF (by simp (disch := first | omega | (simp (disch := omega) only [nI_toInt, Int32.reduceToInt, i_sub, i_add, i_mul]; omega)) only [g1.2.1.1, iNONE, i_lt, i_le, i_eq, i_in, nI_toInt, Int32.reduceToInt, i_sub, i_add, i_mul]; omega) ?_
        refine run_go 4 ?_
        refine brnF (by decide) ?_
        refine run_go 5 ?_
        refine r12_isClear (r := 0) rfl rfl hw hn (by decide) gR hi (fun e => ?_) (fun e => ?_)
        · rw [tB_t e] at kk
          refine brF (by decide) ?_
          refine run_go 6 ?_
          exact kk
        · rw [tB_f e] at kk
          refine brT rfl ?_
          refine run_go 5 ?_
          exact kk
    · (refine brF (by decide) ?_; refine brF (by decide) ?_; refine brF (by decide) ?_; refine brF (by decide) ?_; refine brF (by decide) ?_; refine brF (by decide) ?_; refine brF (by decide) ?_; refine brT (by decide) ?_)
      obtain ⟨tl, tp, e0, e1, e2, e3⟩ := h3.2.2.2.1
      refine call_go (cd := k4_bytes) 60 rfl rfl ?_
      refine h _ _ (fun Q hq => ?_)
      rw [e1] at hq
      refine call_go (cd := k12_count) 60 rfl rfl ?_
      (refine brF (by decide) ?_; refine brF (by decide) ?_; refine brF (by decide) ?_; refine brF (by decide) ?_; refine brF (by decide) ?_; refine brF (by decide) ?_; refine brF (by decide) ?_; refine brT (by decide) ?_)
      show Q ((m_i μ 41 0 0 0).1 41 0 21) 0 (0, 0) _
      rw [show (m_i μ 41 0 0 0).1 41 0 21 = nI tl from e2]
      exact hq _ hI.th
  · (refine brF (fun e => hx ⟨0, by decide, e.trans (by decide)⟩) ?_; refine brF (fun e => hx ⟨1, by decide, e.trans (by decide)⟩) ?_; refine brF (fun e => hx ⟨2, by decide, e.trans (by decide)⟩) ?_; refine brF (fun e => hx ⟨3, by decide, e.trans (by decide)⟩) ?_; refine brF (fun e => hx ⟨4, by decide, e.trans (by decide)⟩) ?_; refine brF (fun e => hx ⟨5, by decide, e.trans (by decide)⟩) ?_; refine brF (fun e => hx ⟨6, by decide, e.trans (by decide)⟩) ?_; refine brF (fun e => hx ⟨7, by decide, e.trans (by decide)⟩) ?_)
    refine h _ _ (fun Q hq => ?_)
    refine call_go (cd := k12_count) 60 rfl rfl ?_
    (refine brF (fun e => hx ⟨0, by decide, e.trans (by decide)⟩) ?_; refine brF (fun e => hx ⟨1, by decide, e.trans (by decide)⟩) ?_; refine brF (fun e => hx ⟨2, by decide, e.trans (by decide)⟩) ?_; refine brF (fun e => hx ⟨3, by decide, e.trans (by decide)⟩) ?_; refine brF (fun e => hx ⟨4, by decide, e.trans (by decide)⟩) ?_; refine brF (fun e => hx ⟨5, by decide, e.trans (by decide)⟩) ?_; refine brF (fun e => hx ⟨6, by decide, e.trans (by decide)⟩) ?_; refine brF (fun e => hx ⟨7, by decide, e.trans (by decide)⟩) ?_)
    exact hq _ hI.th
end OP
