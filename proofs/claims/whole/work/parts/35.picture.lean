/-! the picture of a table -/
def v9 (x : Nat) : Nat := if x = 9 then 0 else x + 1
def cdT (T : tT) (k : Nat) : Nat := 8 * spT T k + v9 (blT T k)
def pcN (T : tT) : Nat → Nat
  | 0 => 0
  | i + 1 => pcN T i * 128 + cdT T i
theorem pc_sm : ∀ s, s < 14 → ∀ v, v < 8 → nI s <<< (3 &&& 31) ||| nI v = nI (8 * s + v) := by decide +kernel
theorem pc_st {a c : Nat} (ha : a < 2 ^ 48) (hc : c < 128) : Int64.ofNat a <<< (((7 : Int32)).toInt64 &&& 63) ||| (nI c).toInt64 = Int64.ofNat (a * 128 + c) := by
  have e1 : ((7 : Int32)).toInt64 &&& 63 = 7 := by decide
  have e2 : (nI c).toInt64 = Int64.ofNat c := by
    have := nI_l (n := c) (by omega)
    rw [this]; rfl
  rw [e1, e2]
  apply Int64.toBitVec_inj.mp
  rw [Int64.toBitVec_or, Int64.toBitVec_shiftLeft]
  have e3 : (7 : Int64).toBitVec.smod 64 = 7#64 := by decide
  rw [e3]
  apply BitVec.eq_of_toNat_eq
  show ((BitVec.ofNat 64 a <<< 7#64) ||| BitVec.ofNat 64 c).toNat = (BitVec.ofNat 64 (a * 128 + c)).toNat
  rw [BitVec.toNat_or, BitVec.shiftLeft_eq', BitVec.toNat_shiftLeft, BitVec.toNat_ofNat, BitVec.toNat_ofNat, BitVec.toNat_ofNat, BitVec.toNat_ofNat, Nat.mod_eq_of_lt (show a < 2 ^ 64 by omega), Nat.mod_eq_of_lt (show c < 2 ^ 64 by omega), Nat.mod_eq_of_lt (show 7 < 2 ^ 64 by omega), Nat.mod_eq_of_lt (show a * 128 + c < 2 ^ 64 by omega), Nat.shiftLeft_eq, Nat.mod_eq_of_lt (show a * 2 ^ 7 < 2 ^ 64 by omega)]
  have := Nat.shiftLeft_add_eq_or_of_lt (i := 7) (b := c) (by omega) a
  rw [Nat.shiftLeft_eq] at this
  rw [← this]
section CO
variable {d t n k c s a b r u o : Nat} {μ : sM} {Q : sQ} {so wt : Nat → Nat} {T T' : tT} {x y z : Int32}
theorem cd_lt (hw : wfT so n T) (hn : n ≤ 6) (hk : k < n) : cdT T k < 128 ∧ spT T k < 14 ∧ v9 (blT T k) < 8 := by
  have h1 := wf_spot hw hn hk
  have h2 := wf_below hw hk
  have h3 : v9 (blT T k) < 8 := by
    unfold v9
    split <;> omega
  unfold cdT
  omega
theorem pc_lt (hw : wfT so n T) (hn : n ≤ 6) : ∀ i, i ≤ n → pcN T i < 128 ^ i
  | 0, _ => (by decide : 0 < 1)
  | i + 1, hi => by
    have h1 := pc_lt hw hn i (by omega)
    have h2 := cd_lt hw hn (k := i) (by omega)
    show pcN T i * 128 + cdT T i < 128 ^ (i + 1)
    rw [Nat.pow_succ]
    omega
theorem c9_picture (hw : wfT so n T) (hS : stkC μ n so wt) (hT : tabC μ t n T) (h : Q 0 (Int64.ofNat (pcN T n)) (0, 0) μ) : Call (d + 2) n9_picture [sR 8 t] μ Q := by
  have hn := hS.2.1
  refine call_go (cd := k9_picture) 4 rfl rfl ?_
  refine loopF (cd := k9_picture) (d := d + 1) (Q := Q) n (fun i j => [some (sR 8 t), some (sL (Int64.ofNat (pcN T i))), none, some (sI j)]) (fun _ => μ) 4 ?_ (fun i hi kk => ?_)
  · refine run_go 5 ?_
    refine c8_size hS ?_
    refine brT (by simp (disch := first | omega | (simp (disch := omega) only [nI_toInt, Int32.reduceToInt, i_sub, i_add, i_mul]; omega)) only [iNONE, i_lt, i_le, i_eq, i_in, nI_toInt, Int32.reduceToInt, i_sub, i_add, i_mul]; omega) ?_
    refine run_go 2 ?_
    exact h
  · have h2 := cd_lt hw hn hi
    have h3 := pc_lt hw hn i (by omega)
    have h4 : 128 ^ i ≤ 128 ^ 6 := Nat.pow_le_pow_right (by decide) (by omega)
    have h5 : pcN T i < 2 ^ 48 := Nat.lt_of_lt_of_le h3 (Nat.le_trans h4 (by decide))
    have h6 := wf_below hw hi
    have e1 : Int64.ofNat (pcN T (i + 1)) = Int64.ofNat (pcN T i) <<< (((7 : Int32)).toInt64 &&& 63) ||| (nI (spT T i) <<< (3 &&& 31) ||| nI (v9 (blT T i))).toInt64 := by
      rw [pc_sm _ h2.2.1 _ h2.2.2]
      exact (pc_st h5 h2.1).symm
    rw [e1] at kk
    have kk2 := run_sub kk (subL.app _ [some (sI (o9 (blT T i)))])
    refine run_go 5 ?_
    refine c8_size hS ?_
    refine brF (by simp (disch := first | omega | (simp (disch := omega) only [nI_toInt, Int32.reduceToInt, i_sub, i_add, i_mul]; omega)) only [iNONE, i_lt, i_le, i_eq, i_in, nI_toInt, Int32.reduceToInt, i_sub, i_add, i_mul]; omega) ?_
    refine run_go 15 ?_
    refine c9_belowOf rfl (by omega) ?_
    rw [(hT.1 i hi).2]
    refine c9_spotOf rfl (by omega) ?_
    rw [(hT.1 i hi).1]
    by_cases e : blT T i = 9
    · refine brnT (by rw [e]; rfl) ?_
      refine run_go 8 ?_
      rw [e] at kk2 ⊢
      exact kk2
    · refine brnF (by rw [show (-1000000 : Int32) = nONE from rfl, o9_none (by omega)]; exact e) ?_
      refine run_go 9 ?_
      have e3 : v9 (blT T i) = blT T i + 1 := if_neg e
      rw [e3, ← nI_1, ← o9_n e] at kk2
      exact kk2
end CO
