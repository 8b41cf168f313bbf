/-! asks and the trace that they leave -/
def bgC (μ : sM) (i : Nat) : List Int32 → sM
  | [] => μ
  | b :: l => bgC (m_i (m_i μ 40 0 i b) 39 0 3 (nI (i + 1))) (i + 1) l
def bgR (μ : sM) (i : Nat) : List Int32 → sM
  | [] => μ
  | b :: l => bgR (m_i (m_i μ 58 0 i b) 41 0 33 (nI (i + 1))) (i + 1) l
theorem bgC_f : ∀ (l : List Int32) (μ : sM) (i a j k : Nat), a ≠ 39 → a ≠ 40 → (bgC μ i l).1 a j k = μ.1 a j k
  | [], _, _, _, _, _, _, _ => rfl
  | b :: l, μ, i, a, j, k, h, h' => by
    show (bgC (m_i (m_i μ 40 0 i b) 39 0 3 (nI (i + 1))) (i + 1) l).1 a j k = _
    rw [bgC_f l _ _ a j k h h', mi_t h, mi_t h']
theorem bgR_f : ∀ (l : List Int32) (μ : sM) (i a j k : Nat), ¬ (a = 41 ∧ k = 33) → a ≠ 58 → (bgR μ i l).1 a j k = μ.1 a j k
  | [], _, _, _, _, _, _, _ => rfl
  | b :: l, μ, i, a, j, k, h, h' => by
    show (bgR (m_i (m_i μ 58 0 i b) 41 0 33 (nI (i + 1))) (i + 1) l).1 a j k = _
    rw [bgR_f l _ _ a j k h h', mi_n (by omega), mi_t h']
theorem bgC_2 : ∀ (l : List Int32) (μ : sM) (i : Nat), (bgC μ i l).2 = μ.2
  | [], _, _ => rfl
  | _ :: l, _, _ => bgC_2 l _ _
theorem bgR_2 : ∀ (l : List Int32) (μ : sM) (i : Nat), (bgR μ i l).2 = μ.2
  | [], _, _ => rfl
  | _ :: l, _, _ => bgR_2 l _ _
theorem bgC_n : ∀ (l : List Int32) (μ : sM) (i : Nat), μ.1 39 0 3 = nI i → (bgC μ i l).1 39 0 3 = nI (i + l.length)
  | [], _, _, h => h
  | b :: l, μ, i, _ => by
    have := bgC_n l (m_i (m_i μ 40 0 i b) 39 0 3 (nI (i + 1))) (i + 1) mi_s
    rw [show i + (b :: l).length = i + 1 + l.length by rw [List.length_cons]; omega]
    exact this
theorem bgR_n : ∀ (l : List Int32) (μ : sM) (i : Nat), μ.1 41 0 33 = nI i → (bgR μ i l).1 41 0 33 = nI (i + l.length)
  | [], _, _, h => h
  | b :: l, μ, i, _ => by
    have := bgR_n l (m_i (m_i μ 58 0 i b) 41 0 33 (nI (i + 1))) (i + 1) mi_s
    rw [show i + (b :: l).length = i + 1 + l.length by rw [List.length_cons]; omega]
    exact this
theorem bgC_lo : ∀ (l : List Int32) (μ : sM) (i k : Nat), k < i → (bgC μ i l).1 40 0 k = μ.1 40 0 k
  | [], _, _, _, _ => rfl
  | b :: l, μ, i, k, h => by
    show (bgC (m_i (m_i μ 40 0 i b) 39 0 3 (nI (i + 1))) (i + 1) l).1 40 0 k = _
    rw [bgC_lo l _ _ k (by omega), mi_t (by decide), mi_k (by omega)]
theorem bgR_lo : ∀ (l : List Int32) (μ : sM) (i k : Nat), k < i → (bgR μ i l).1 58 0 k = μ.1 58 0 k
  | [], _, _, _, _ => rfl
  | b :: l, μ, i, k, h => by
    show (bgR (m_i (m_i μ 58 0 i b) 41 0 33 (nI (i + 1))) (i + 1) l).1 58 0 k = _
    rw [bgR_lo l _ _ k (by omega), mi_t (by decide), mi_k (by omega)]
theorem bgC_v : ∀ (l : List Int32) (μ : sM) (i k : Nat), k < l.length → (bgC μ i l).1 40 0 (i + k) = nth 0 l k
  | [], _, _, k, h => absurd h (Nat.not_lt_zero k)
  | b :: l, μ, i, 0, _ => by
    show (bgC (m_i (m_i μ 40 0 i b) 39 0 3 (nI (i + 1))) (i + 1) l).1 40 0 i = b
    rw [bgC_lo l _ _ i (by omega), mi_t (by decide), mi_s]
  | b :: l, μ, i, k + 1, h => by
    show (bgC (m_i (m_i μ 40 0 i b) 39 0 3 (nI (i + 1))) (i + 1) l).1 40 0 (i + (k + 1)) = nth 0 l k
    rw [show i + (k + 1) = i + 1 + k by omega]
    exact bgC_v l _ _ k (by rw [List.length_cons] at h; omega)
theorem bgR_v : ∀ (l : List Int32) (μ : sM) (i k : Nat), k < l.length → (bgR μ i l).1 58 0 (i + k) = nth 0 l k
  | [], _, _, k, h => absurd h (Nat.not_lt_zero k)
  | b :: l, μ, i, 0, _ => by
    show (bgR (m_i (m_i μ 58 0 i b) 41 0 33 (nI (i + 1))) (i + 1) l).1 58 0 i = b
    rw [bgR_lo l _ _ i (by omega), mi_t (by decide), mi_s]
  | b :: l, μ, i, k + 1, h => by
    show (bgR (m_i (m_i μ 58 0 i b) 41 0 33 (nI (i + 1))) (i + 1) l).1 58 0 (i + (k + 1)) = nth 0 l k
    rw [show i + (k + 1) = i + 1 + k by omega]
    exact bgR_v l _ _ k (by rw [List.length_cons] at h; omega)
def bxV (wt : Nat → Nat) (T : tT) (k : Nat) : Int32 := nI (wt k) + if zN T k = 9 then 0 else nI (wt (zN T k))
noncomputable def mkV (T : tT) (k : Nat) : Int32 := nI k + nI (100 * tB (clT' T k))
section OP
variable {d n k c s a b r u o i rel κ lr t p : Nat} {μ μ' : sM} {Q : sQ} {so wt rc : Nat → Nat} {T T' : tT} {tb : Nat → tT} {x y z w v : Int32} {ξ : Nat → Nat → Int32} {l : List Int32}
theorem bgC_V : frm fV μ (bgC μ i l) := fun a j k z => bgC_f l μ i a j k (by unfold fV at z; omega) (by unfold fV at z; omega)
theorem bgR_U : frm fU μ (bgR μ i l) := fun a j k z => bgR_f l μ i a j k (by unfold fU at z; omega) (by unfold fU at z; omega)
theorem ask_inv (hI : INV ξ μ) (hl : l.length ≤ 16) : INV ξ (bgR (m_i (m_i (bgC (m_i μ 39 0 3 0) 0 l) 41 0 0 0) 41 0 33 0) 0 l) := by
  refine hI.tr ?_ ?_ ⟨l.length, hl, ?_, ?_, fun k hk => ?_⟩
  · intro a j k z
    have z1 : ¬ fX a j k := z.2
    have z3 : ¬ (a = 41 ∧ k = 0) := fun q => by obtain ⟨rfl, rfl⟩ := q; have := z.1; unfold fT fO fS fR fN fP fX fF fL at this; omega
    have z4 : ¬ (a = 39) := fun q => by subst q; have := z.1; unfold fT fO fS fR fN fP fX fF fL at this; unfold fX at z1; omega
    unfold fX at z1
    rw [bgR_f _ _ _ _ _ _ (by omega) (by omega), mi_n (by omega), mi_n (by omega), bgC_f _ _ _ _ _ _ (by omega) (by omega), mi_n (by omega)]
  · rw [bgR_2]
    show (bgC (m_i μ 39 0 3 0) 0 l).2 = μ.2
    rw [bgC_2]; rfl
  · rw [bgR_f _ _ _ _ _ _ (by omega) (by omega), mi_t (by decide), mi_t (by decide)]
    exact (bgC_n l _ 0 mi_s).trans (by rw [Nat.zero_add])
  · exact (bgR_n l _ 0 mi_s).trans (by rw [Nat.zero_add])
  · have h1 := bgR_v l (m_i (m_i (bgC (m_i μ 39 0 3 0) 0 l) 41 0 0 0) 41 0 33 0) 0 k hk
    have h2 := bgC_v l (m_i μ 39 0 3 0) 0 k hk
    rw [Nat.zero_add] at h1 h2
    rw [h1, bgR_f _ _ _ _ _ _ (by omega) (by omega), mi_t (by decide), mi_t (by decide), h2]
theorem c1_begin (hb : μ.1 39 0 3 = nI i) (hi : i < 16) (h : Q 0 0 (0, 0) (m_i (m_i μ 40 0 i x) 39 0 3 (nI (i + 1)))) : Call (d + 1) n1_begin [sR 39 0, sI x] μ Q := by
  refine call_go (cd := k1_begin) 40 rfl rfl ?_
  refine brF (by simp (disch := first | omega | (simp (disch := omega) only [nI_toInt, Int32.reduceToInt, i_sub, i_add, i_mul]; omega)) only [hb, iNONE, i_lt, i_le, i_eq, i_in, nI_toInt, Int32.reduceToInt, i_sub, i_add, i_mul]; omega) ?_
  refine brF (by simp (disch := first | omega | (simp (disch := omega) only [nI_toInt, Int32.reduceToInt, i_sub, i_add, i_mul]; omega)) only [hb, iNONE, i_lt, i_le, i_eq, i_in, nI_toInt, Int32.reduceToInt, i_sub, i_add, i_mul]; omega) ?_
  refine And.intro (by simp (disch := first | omega | (simp (disch := omega) only [nI_toInt, Int32.reduceToInt, i_sub, i_add, i_mul]; omega)) only [hb, iNONE, i_lt, i_le, i_eq, i_in, nI_toInt, Int32.reduceToInt, i_sub, i_add, i_mul]; omega) ?_
  rw [hb, nI_clamp (by omega)]
  show Q 0 0 (0, 0) (m_i (m_i μ 40 0 i x) 39 0 3 ((m_i μ 40 0 i x).1 39 0 3 + 1))
  rw [mi_t (by decide), hb, nI_1]
  exact h
theorem r12_began (hb : μ.1 41 0 33 = nI i) (hi : i < 16) (h : Q 0 0 (0, 0) (m_i (m_i μ 58 0 i x) 41 0 33 (nI (i + 1)))) : Call (d + 1) n12_began [sR 41 0, sI x] μ Q := by
  refine call_go (cd := k12_began) 40 rfl rfl ?_
  refine brF (by simp (disch := first | omega | (simp (disch := omega) only [nI_toInt, Int32.reduceToInt, i_sub, i_add, i_mul]; omega)) only [hb, iNONE, i_lt, i_le, i_eq, i_in, nI_toInt, Int32.reduceToInt, i_sub, i_add, i_mul]; omega) ?_
  refine And.intro (by simp (disch := first | omega | (simp (disch := omega) only [nI_toInt, Int32.reduceToInt, i_sub, i_add, i_mul]; omega)) only [hb, iNONE, i_lt, i_le, i_eq, i_in, nI_toInt, Int32.reduceToInt, i_sub, i_add, i_mul]; omega) ?_
  rw [hb, nI_clamp (by omega)]
  show Q 0 0 (0, 0) (m_i (m_i μ 58 0 i x) 41 0 33 ((m_i μ 58 0 i x).1 41 0 33 + 1))
  rw [mi_t (by decide), hb, nI_1]
  exact h
/-- the bodies of the class -/
theorem c1_10 (hp : p ≤ 8) (hb : μ.1 39 0 3 = nI i) (hi : i < 16) (hS : stkC μ n so wt) (hk : k < n) (h : Q (nI (wt k)) 0 (0, 0) (bgC μ i [10])) : Call (d + 2) n1_run [sR 39 0, sI 10, sI (nI k), sI (nI p)] μ Q := by
  refine call_go (cd := k1_run) 60 rfl rfl ?_
  refine brT (by simp (disch := first | omega | (simp (disch := omega) only [nI_toInt, Int32.reduceToInt, i_sub, i_add, i_mul]; omega)) only [iNONE, i_lt, i_le, i_eq, i_in, nI_toInt, Int32.reduceToInt, i_sub, i_add, i_mul]; omega) ?_
  refine c1_begin hb hi ?_
  (refine brT (by decide) ?_)
  refine c8_weightOf rfl (hS.f2 ((frm.rf.mi (by unfold fV; omega)).mi (by unfold fV; omega))) hk ?_
  exact h
theorem c1_20 (hp : p ≤ 8) (hb : μ.1 39 0 3 = nI i) (hi : i < 16) (h : Q (nI k) 0 (0, 0) (bgC μ i [20])) : Call (d + 2) n1_run [sR 39 0, sI 20, sI (nI k), sI (nI p)] μ Q := by
  refine call_go (cd := k1_run) 60 rfl rfl ?_
  refine brT (by simp (disch := first | omega | (simp (disch := omega) only [nI_toInt, Int32.reduceToInt, i_sub, i_add, i_mul]; omega)) only [iNONE, i_lt, i_le, i_eq, i_in, nI_toInt, Int32.reduceToInt, i_sub, i_add, i_mul]; omega) ?_
  refine c1_begin hb hi ?_
  (refine brF (by decide) ?_; refine brF (by decide) ?_; refine brF (by decide) ?_; refine brF (by decide) ?_; refine brF (by decide) ?_; refine brF (by decide) ?_; refine brF (by decide) ?_; refine brF (by decide) ?_; refine brF (by decide) ?_; refine brF (by decide) ?_; refine brT (by decide) ?_)
  exact h
theorem c1_21 (hp : p < 8) (hb : μ.1 39 0 3 = nI i) (hi : i + 1 < 16) (hw : wfT so n T) (hS : stkC μ n so wt) (hT : tabC μ 0 n T) (hk : k < n) (h : Q (mkV T k) 0 (0, 0) (bgC μ i [21, 20])) : Call (d + 3) n1_run [sR 39 0, sI 21, sI (nI k), sI (nI p)] μ Q := by
  have hn := hS.2.1
  refine call_go (cd := k1_run) 60 rfl rfl ?_
  refine brT (by simp (disch := first | omega | (simp (disch := omega) only [nI_toInt, Int32.reduceToInt, i_sub, i_add, i_mul]; omega)) only [iNONE, i_lt, i_le, i_eq, i_in, nI_toInt, Int32.reduceToInt, i_sub, i_add, i_mul]; omega) ?_
  refine c1_begin hb (by omega) ?_
  (refine brF (by decide) ?_; refine brF (by decide) ?_; refine brF (by decide) ?_; refine brF (by decide) ?_; refine brF (by decide) ?_; refine brF (by decide) ?_; refine brF (by decide) ?_; refine brF (by decide) ?_; refine brF (by decide) ?_; refine brF (by decide) ?_; refine brF (by decide) ?_; refine brT (by decide) ?_)
  rw [nI_1]
  refine c1_20 (by omega) mi_s hi ?_
  refine c9_isClear rfl hw hn (hT.f2 (bgC_V (l := [21, 20]))) hk (fun e => ?_) (fun e => ?_)
  · refine brF (by decide) ?_
    unfold mkV at h
    rw [tB_t e] at h
    exact h
  · refine brT rfl ?_
    unfold mkV at h
    rw [tB_f e] at h
    exact h
theorem c1_12 (hp : p < 8) (hb : μ.1 39 0 3 = nI i) (hi : i + 1 < 16) (hw : wfT so n T) (hS : stkC μ n so wt) (hT : tabC μ 0 n T) (hk : k < n) (h : Q (bxV wt T k) 0 (0, 0) (bgC μ i [12, 10])) : Call (d + 3) n1_run [sR 39 0, sI 12, sI (nI k), sI (nI p)] μ Q := by
  have hn := hS.2.1
  refine call_go (cd := k1_run) 60 rfl rfl ?_
  refine brT (by simp (disch := first | omega | (simp (disch := omega) only [nI_toInt, Int32.reduceToInt, i_sub, i_add, i_mul]; omega)) only [iNONE, i_lt, i_le, i_eq, i_in, nI_toInt, Int32.reduceToInt, i_sub, i_add, i_mul]; omega) ?_
  refine c1_begin hb (by omega) ?_
  (refine brF (by decide) ?_; refine brF (by decide) ?_; refine brT (by decide) ?_)
  rw [nI_1]
  refine c1_10 (by omega) mi_s hi (hS.f2 ((frm.rf.mi (by unfold fV; omega)).mi (by unfold fV; omega))) hk ?_
  have hT' : tabC (bgC μ i [12, 10]) 0 n T := hT.f2 bgC_V
  have hS' : stkC (bgC μ i [12, 10]) n so wt := hS.f2 bgC_V
  refine c9_insideOf rfl (by omega) ?_
  rw [show (bgC (m_i (m_i μ 40 0 i 12) 39 0 3 (nI (i + 1))) (i + 1) [10]).1 11 0 k = o9 (zN T k) from hT'.2.2.1 k (by omega)]
  unfold bxV at h
  by_cases e : zN T k = 9
  · rw [if_pos e] at h
    rw [e]
    refine c8_weightOf_o ?_
    exact h
  · rw [if_neg e] at h
    refine c8_weightOf (o9_n e) hS' (hw.2.2.2.1 k hk e).1 ?_
    exact h
theorem c1_13 (hp : p + 1 < 8) (hb : μ.1 39 0 3 = nI i) (hi : i + 2 < 16) (hw : wfT so n T) (hS : stkC μ n so wt) (hT : tabC μ 0 n T) (hk : k < n) (h : Q (2 * bxV wt T k) 0 (0, 0) (bgC μ i [13, 12, 10])) : Call (d + 4) n1_run [sR 39 0, sI 13, sI (nI k), sI (nI p)] μ Q := by
  refine call_go (cd := k1_run) 60 rfl rfl ?_
  refine brT (by simp (disch := first | omega | (simp (disch := omega) only [nI_toInt, Int32.reduceToInt, i_sub, i_add, i_mul]; omega)) only [iNONE, i_lt, i_le, i_eq, i_in, nI_toInt, Int32.reduceToInt, i_sub, i_add, i_mul]; omega) ?_
  refine c1_begin hb (by omega) ?_
  (refine brF (by decide) ?_; refine brF (by decide) ?_; refine brF (by decide) ?_; refine brT (by decide) ?_)
  rw [nI_1]
  refine c1_12 (by omega) mi_s (by omega) hw (hS.f2 ((frm.rf.mi (by unfold fV; omega)).mi (by unfold fV; omega))) (hT.f2 ((frm.rf.mi (by unfold fV; omega)).mi (by unfold fV; omega))) hk ?_
  exact h
theorem c1_14 (hp : p < 8) (hb : μ.1 39 0 3 = nI i) (hi : i + 1 < 16) (hw : wfT so n T) (hS : stkC μ n so wt) (hT : tabC μ 0 n T) (hk : k < n) (h : Q (nI (wt k) + nI (dpT T k)) 0 (0, 0) (bgC μ i [14, 10])) : Call (d + 3) n1_run [sR 39 0, sI 14, sI (nI k), sI (nI p)] μ Q := by
  have hn := hS.2.1
  refine call_go (cd := k1_run) 60 rfl rfl ?_
  refine brT (by simp (disch := first | omega | (simp (disch := omega) only [nI_toInt, Int32.reduceToInt, i_sub, i_add, i_mul]; omega)) only [iNONE, i_lt, i_le, i_eq, i_in, nI_toInt, Int32.reduceToInt, i_sub, i_add, i_mul]; omega) ?_
  refine c1_begin hb (by omega) ?_
  (refine brF (by decide) ?_; refine brF (by decide) ?_; refine brF (by decide) ?_; refine brF (by decide) ?_; refine brT (by decide) ?_)
  rw [nI_1]
  refine c1_10 (by omega) mi_s hi (hS.f2 ((frm.rf.mi (by unfold fV; omega)).mi (by unfold fV; omega))) hk ?_
  refine c9_depthOf rfl hw hn (hT.f2 (bgC_V (l := [14, 10]))) hk ?_
  exact h
theorem c1_23 (hp : p < 8) (hb : μ.1 39 0 3 = nI i) (hi : i + 1 < 16) (h : Q (nI k + 1000) 0 (0, 0) (bgC μ i [23, 20])) : Call (d + 3) n1_run [sR 39 0, sI 23, sI (nI k), sI (nI p)] μ Q := by
  refine call_go (cd := k1_run) 60 rfl rfl ?_
  refine brT (by simp (disch := first | omega | (simp (disch := omega) only [nI_toInt, Int32.reduceToInt, i_sub, i_add, i_mul]; omega)) only [iNONE, i_lt, i_le, i_eq, i_in, nI_toInt, Int32.reduceToInt, i_sub, i_add, i_mul]; omega) ?_
  refine c1_begin hb (by omega) ?_
  (refine brF (by decide) ?_; refine brF (by decide) ?_; refine brF (by decide) ?_; refine brF (by decide) ?_; refine brF (by decide) ?_; refine brF (by decide) ?_; refine brF (by decide) ?_; refine brF (by decide) ?_; refine brF (by decide) ?_; refine brF (by decide) ?_; refine brF (by decide) ?_; refine brF (by decide) ?_; refine brF (by decide) ?_; refine brT (by decide) ?_)
  rw [nI_1]
  refine c1_20 (by omega) mi_s hi ?_
  exact h
/-- the body that is asked, by kind -/
def szB (K : Nat) : Nat := if K = 1 then 11 else if K = 2 then 10 else if K = 3 then 12 else if K = 4 then 13 else 14
def mkB (K : Nat) : Nat := if K = 1 then 21 else if K = 2 then 23 else if K = 3 then 20 else if K = 4 then 22 else 20
theorem kd_rg : 1 ≤ kdT so n T k ∧ kdT so n T k ≤ 5 := by
  have := tB_le (P := shT so n T k)
  unfold kdT
  split
  · omega
  · split
    · omega
    · split <;> omega
theorem c1_sizeBody (hw : wfT so n T) (hS : stkC μ n so wt) (hT : tabC μ 0 n T) (hk : k < n) (h : Q (nI (szB (kdT so n T k))) 0 (0, 0) μ) : Call (d + 5) n1_sizeBody [sR 39 0, sI (nI k)] μ Q := by
  refine call_go (cd := k1_sizeBody) 60 rfl rfl ?_
  refine c9_kindOf rfl hw hS hT hk ?_
  have hK := kd_rg (so := so) (n := n) (T := T) (k := k)
  generalize kdT so n T k = K at hK h ⊢
  rcases (by omega : K = 1 ∨ K = 2 ∨ K = 3 ∨ K = 4 ∨ K = 5) with rfl | rfl | rfl | rfl | rfl
  · (refine brT (by decide) ?_)
    exact h
  · (refine brF (by decide) ?_; refine brT (by decide) ?_)
    exact h
  · (refine brF (by decide) ?_; refine brF (by decide) ?_; refine brT (by decide) ?_)
    exact h
  · (refine brF (by decide) ?_; refine brF (by decide) ?_; refine brF (by decide) ?_; refine brT (by decide) ?_)
    exact h
  · (refine brF (by decide) ?_; refine brF (by decide) ?_; refine brF (by decide) ?_; refine brF (by decide) ?_; refine brT (by decide) ?_)
    exact h
theorem c1_markBody (hw : wfT so n T) (hS : stkC μ n so wt) (hT : tabC μ 0 n T) (hk : k < n) (h : Q (nI (mkB (kdT so n T k))) 0 (0, 0) μ) : Call (d + 5) n1_markBody [sR 39 0, sI (nI k)] μ Q := by
  refine call_go (cd := k1_markBody) 60 rfl rfl ?_
  refine c9_kindOf rfl hw hS hT hk ?_
  have hK := kd_rg (so := so) (n := n) (T := T) (k := k)
  generalize kdT so n T k = K at hK h ⊢
  rcases (by omega : K = 1 ∨ K = 2 ∨ K = 3 ∨ K = 4 ∨ K = 5) with rfl | rfl | rfl | rfl | rfl
  · (refine brT (by decide) ?_)
    exact h
  · (refine brF (by decide) ?_; refine brT (by decide) ?_)
    exact h
  · (refine brF (by decide) ?_; refine brF (by decide) ?_; refine brT (by decide) ?_)
    exact h
  · (refine brF (by decide) ?_; refine brF (by decide) ?_; refine brF (by decide) ?_; refine brT (by decide) ?_)
    exact h
  · (refine brF (by decide) ?_; refine brF (by decide) ?_; refine brF (by decide) ?_; refine brF (by decide) ?_)
    exact h
theorem c1_11 (hK : kdT so n T k = 1) (hp : p + 1 < 8) (hb : μ.1 39 0 3 = nI i) (hi : i + 3 < 16) (hw : wfT so n T) (hS : stkC μ n so wt) (hT : tabC μ 0 n T) (hk : k < n) (h : Q (nI (wt k) + mkV T k) 0 (0, 0) (bgC μ i [11, 10, 21, 20])) : Call (d + 6) n1_run [sR 39 0, sI 11, sI (nI k), sI (nI p)] μ Q := by
  refine call_go (cd := k1_run) 60 rfl rfl ?_
  refine brT (by simp (disch := first | omega | (simp (disch := omega) only [nI_toInt, Int32.reduceToInt, i_sub, i_add, i_mul]; omega)) only [iNONE, i_lt, i_le, i_eq, i_in, nI_toInt, Int32.reduceToInt, i_sub, i_add, i_mul]; omega) ?_
  refine c1_begin hb (by omega) ?_
  (refine brF (by decide) ?_; refine brT (by decide) ?_)
  rw [nI_1]
  refine c1_10 (by omega) mi_s (by omega) (hS.f2 ((frm.rf.mi (by unfold fV; omega)).mi (by unfold fV; omega))) hk ?_
  refine c1_markBody hw (hS.f2 (bgC_V (l := [11, 10]))) (hT.f2 (bgC_V (l := [11, 10]))) hk ?_
  rw [hK]
  refine c1_21 (i := i + 2) (by omega) (bgC_n [11, 10] μ i hb) (by omega) hw (hS.f2 (bgC_V (l := [11, 10]))) (hT.f2 (bgC_V (l := [11, 10]))) hk ?_
  exact h
theorem c1_22 (hK : kdT so n T k = 4) (hp : p + 2 < 8) (hb : μ.1 39 0 3 = nI i) (hi : i + 4 < 16) (hw : wfT so n T) (hS : stkC μ n so wt) (hT : tabC μ 0 n T) (hk : k < n) (h : Q (nI k + 2 * bxV wt T k) 0 (0, 0) (bgC μ i [22, 20, 13, 12, 10])) : Call (d + 6) n1_run [sR 39 0, sI 22, sI (nI k), sI (nI p)] μ Q := by
  refine call_go (cd := k1_run) 60 rfl rfl ?_
  refine brT (by simp (disch := first | omega | (simp (disch := omega) only [nI_toInt, Int32.reduceToInt, i_sub, i_add, i_mul]; omega)) only [iNONE, i_lt, i_le, i_eq, i_in, nI_toInt, Int32.reduceToInt, i_sub, i_add, i_mul]; omega) ?_
  refine c1_begin hb (by omega) ?_
  (refine brF (by decide) ?_; refine brF (by decide) ?_; refine brF (by decide) ?_; refine brF (by decide) ?_; refine brF (by decide) ?_; refine brF (by decide) ?_; refine brF (by decide) ?_; refine brF (by decide) ?_; refine brF (by decide) ?_; refine brF (by decide) ?_; refine brF (by decide) ?_; refine brF (by decide) ?_; refine brT (by decide) ?_)
  rw [nI_1]
  refine c1_20 (by omega) mi_s (by omega) ?_
  refine c1_sizeBody hw (hS.f2 (bgC_V (l := [22, 20]))) (hT.f2 (bgC_V (l := [22, 20]))) hk ?_
  rw [hK]
  refine c1_13 (i := i + 2) (by omega) (bgC_n [22, 20] μ i hb) (by omega) hw (hS.f2 (bgC_V (l := [22, 20]))) (hT.f2 (bgC_V (l := [22, 20]))) hk ?_
  exact h
end OP
