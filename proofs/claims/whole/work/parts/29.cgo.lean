/-! the class's tables: writing -/
theorem mi_s {μ : sM} {t i k : Nat} {x : Int32} : (m_i μ t i k x).1 t i k = x := if_pos ⟨rfl, rfl, rfl⟩
theorem mi_t {μ : sM} {t i k a j l : Nat} {x : Int32} (h : a ≠ t) : (m_i μ t i k x).1 a j l = μ.1 a j l := if_neg (fun e => h e.1)
theorem mi_i {μ : sM} {t i k a j l : Nat} {x : Int32} (h : j ≠ i) : (m_i μ t i k x).1 a j l = μ.1 a j l := if_neg (fun e => h e.2.1)
theorem mi_k {μ : sM} {t i k a j l : Nat} {x : Int32} (h : l ≠ k) : (m_i μ t i k x).1 a j l = μ.1 a j l := if_neg (fun e => h e.2.2)
/-- nothing is written but the rows of one table -/
def agT (t : Nat) (μ μ' : sM) : Prop := (∀ a i k, ¬ (9 ≤ a ∧ a ≤ 12 ∧ i = t) → μ'.1 a i k = μ.1 a i k) ∧ μ'.2 = μ.2
theorem agT.rf {t : Nat} {μ : sM} : agT t μ μ := ⟨fun _ _ _ _ => rfl, rfl⟩
theorem agT.tr {t : Nat} {μ μ' μ'' : sM} (h : agT t μ μ') (h' : agT t μ' μ'') : agT t μ μ'' := ⟨fun a i k z => (h'.1 a i k z).trans (h.1 a i k z), h'.2.trans h.2⟩
theorem agT.mi {t a k : Nat} {μ μ' : sM} {x : Int32} (h : agT t μ μ') (ha : 9 ≤ a ∧ a ≤ 12) : agT t μ (m_i μ' a t k x) := by
  refine ⟨fun b i j z => ?_, h.2⟩
  rw [← h.1 b i j z]
  exact if_neg (fun e => z ⟨by omega, by omega, e.2.1⟩)
theorem stkC.ag {t n : Nat} {so wt : Nat → Nat} {μ μ' : sM} (h : stkC μ n so wt) (g : agT t μ μ') : stkC μ' n so wt := by
  refine ⟨by rw [g.1 5 0 2 (by omega)]; exact h.1, h.2.1, fun k hk => ?_⟩
  rw [g.1 6 0 k (by omega), g.1 7 0 k (by omega)]
  exact h.2.2 k hk
theorem tabC.ag {t u n : Nat} {T : tT} {μ μ' : sM} (h : tabC μ u n T) (g : agT t μ μ') (hu : u ≠ t) : tabC μ' u n T := by
  obtain ⟨h1, h2, h3, h4⟩ := h
  refine ⟨fun k hk => ?_, fun k hk hk6 => ?_, fun b hb => ?_, fun c hc => ?_⟩
  · rw [g.1 9 u k (by omega), g.1 10 u k (by omega)]; exact h1 k hk
  · rw [g.1 9 u k (by omega), g.1 10 u k (by omega)]; exact h2 k hk hk6
  · rw [g.1 11 u b (by omega)]; exact h3 b hb
  · rw [g.1 12 u c (by omega)]; exact h4 c hc
theorem row9 {μ : sM} {t k c g j : Nat} {v w u : Int32} (hg : 9 ≠ g) : (m_i (m_i (m_i μ 9 t k v) 10 t k w) g t c u).1 9 t j = if j = k then v else μ.1 9 t j := by
  rw [mi_t hg, mi_t (by decide)]
  by_cases e : j = k
  · subst e; rw [mi_s, if_pos rfl]
  · rw [mi_k e, if_neg e]
theorem row10 {μ : sM} {t k c g j : Nat} {v w u : Int32} (hg : 10 ≠ g) : (m_i (m_i (m_i μ 9 t k v) 10 t k w) g t c u).1 10 t j = if j = k then w else μ.1 10 t j := by
  rw [mi_t hg]
  by_cases e : j = k
  · subst e; rw [mi_s, if_pos rfl]
  · rw [mi_k e, if_neg e, mi_t (by decide)]
def tab1 (μ : sM) (t n : Nat) (T : tT) (k : Nat) : Prop :=
  (∀ j, j < n → j ≠ k → μ.1 9 t j = nI (spT T j) ∧ μ.1 10 t j = o9 (blT T j)) ∧ (∀ j, n ≤ j → j < 6 → μ.1 9 t j = nONE ∧ μ.1 10 t j = nONE) ∧
  (∀ b, b < 6 → μ.1 11 t b = o9 (zN T b)) ∧ ∀ c, c < 8 → μ.1 12 t c = o9 (tpT T c)
section CG
variable {d t n k c s a b r : Nat} {μ : sM} {Q : sQ} {so wt : Nat → Nat} {T : tT} {x y z : Int32}
theorem up_cell (hw : wfT so n T) (hn : n ≤ 6) (hT : tabC μ t n T) (hk : k < n) (e : zB T k = 9) (hc : zI T k + 1 = zS T (zC T k)) : tab1 (m_i μ 12 t (zC T k) (μ.1 10 t k)) t n (upT T k) k := by
  have h1 := hw.2.1 k hk e
  have eT : upT T k = (updN (zS T) (zC T k) (zS T (zC T k) - 1), zA T, zB T, zC T, zI T, zN T) := if_pos e
  rw [eT]
  refine ⟨fun j hj hne => ?_, fun j hj hj6 => ?_, fun b hb => ?_, fun c hc8 => ?_⟩
  · rw [mi_t (by decide), mi_t (by decide)]; exact hT.1 j hj
  · rw [mi_t (by decide), mi_t (by decide)]; exact hT.2.1 j hj hj6
  · rw [mi_t (by decide)]; exact hT.2.2.1 b hb
  · by_cases e2 : c = zC T k
    · subst e2
      rw [mi_s, (hT.1 k hk).2]
      congr 1
      show blT T k = if updN (zS T) (zC T k) (zS T (zC T k) - 1) (zC T k) = 0 then 9 else zA T (zC T k) (updN (zS T) (zC T k) (zS T (zC T k) - 1) (zC T k) - 1)
      rw [updN_s]
      unfold blT
      by_cases e3 : 0 < zI T k
      · rw [if_pos ⟨e, e3⟩, if_neg (by omega), show zS T (zC T k) - 1 - 1 = zI T k - 1 by omega]
      · rw [if_neg (fun z => e3 z.2), if_pos (by omega)]
    · rw [mi_k e2, hT.2.2.2 c hc8]
      congr 1
      show (if zS T c = 0 then 9 else zA T c (zS T c - 1)) = if updN (zS T) (zC T k) (zS T (zC T k) - 1) c = 0 then 9 else zA T c (updN (zS T) (zC T k) (zS T (zC T k) - 1) c - 1)
      rw [updN_n e2]
theorem up_box (hw : wfT so n T) (hn : n ≤ 6) (hT : tabC μ t n T) (hk : k < n) (e : zB T k ≠ 9) : tab1 (m_i μ 11 t (zB T k) nONE) t n (upT T k) k := by
  have eT : upT T k = (zS T, zA T, updN (zB T) k 9, zC T, zI T, updN (zN T) (zB T k) 9) := if_neg e
  rw [eT]
  refine ⟨fun j hj hne => ?_, fun j hj hj6 => ?_, fun b hb => ?_, fun c hc8 => ?_⟩
  · rw [mi_t (by decide), mi_t (by decide), (hT.1 j hj).1, (hT.1 j hj).2]
    refine ⟨congrArg nI ?_, congrArg o9 ?_⟩
    · show (if zB T j = 9 then zC T j else 8 + zB T j) = if updN (zB T) k 9 j = 9 then zC T j else 8 + updN (zB T) k 9 j
      rw [updN_n hne]
    · show (if zB T j = 9 ∧ 0 < zI T j then zA T (zC T j) (zI T j - 1) else 9) = if updN (zB T) k 9 j = 9 ∧ 0 < zI T j then zA T (zC T j) (zI T j - 1) else 9
      rw [updN_n hne]
  · rw [mi_t (by decide), mi_t (by decide)]; exact hT.2.1 j hj hj6
  · show (m_i μ 11 t (zB T k) nONE).1 11 t b = o9 (updN (zN T) (zB T k) 9 b)
    by_cases e2 : b = zB T k
    · subst e2; rw [mi_s, updN_s]; rfl
    · rw [mi_k e2, updN_n e2]; exact hT.2.2.1 b hb
  · rw [mi_t (by decide)]; exact hT.2.2.2 c hc8
theorem land_cell (hw : wf1 so n T k) (hn : n ≤ 6) (hT : tab1 μ t n T k) (hc : c < 8) : tabC (m_i (m_i (m_i μ 9 t k (nI c)) 10 t k (μ.1 12 t c)) 12 t c (nI k)) t n (pcT T k c) := by
  obtain ⟨w1, w2, w3, w4, w5, hk, hb⟩ := hw
  refine ⟨fun j hj => ?_, fun j hj hj6 => ?_, fun b hb => ?_, fun c' hc' => ?_⟩
  · rw [row9 (by decide), row10 (by decide)]
    by_cases e : j = k
    · subst e
      rw [if_pos rfl, if_pos rfl, hT.2.2.2 c hc]
      refine ⟨congrArg nI ?_, congrArg o9 ?_⟩
      · show c = if zB T j = 9 then updN (zC T) j c j else 8 + zB T j
        rw [if_pos hb, updN_s]
      · show (if zS T c = 0 then 9 else zA T c (zS T c - 1)) = if zB T j = 9 ∧ 0 < updN (zI T) j (zS T c) j then (if updN (zC T) j c j = c ∧ updN (zI T) j (zS T c) j - 1 = zS T c then j else zA T (updN (zC T) j c j) (updN (zI T) j (zS T c) j - 1)) else 9
        rw [updN_s, updN_s]
        by_cases e2 : zS T c = 0
        · rw [if_pos e2, if_neg (fun z => by omega)]
        · rw [if_neg e2, if_pos ⟨hb, by omega⟩, if_neg (fun z => by omega)]
    · rw [if_neg e, if_neg e, (hT.1 j hj e).1, (hT.1 j hj e).2]
      refine ⟨congrArg nI ?_, congrArg o9 ?_⟩
      · show (if zB T j = 9 then zC T j else 8 + zB T j) = if zB T j = 9 then updN (zC T) k c j else 8 + zB T j
        rw [updN_n e]
      · show (if zB T j = 9 ∧ 0 < zI T j then zA T (zC T j) (zI T j - 1) else 9) = if zB T j = 9 ∧ 0 < updN (zI T) k (zS T c) j then (if updN (zC T) k c j = c ∧ updN (zI T) k (zS T c) j - 1 = zS T c then k else zA T (updN (zC T) k c j) (updN (zI T) k (zS T c) j - 1)) else 9
        rw [updN_n e, updN_n e]
        by_cases e2 : zB T j = 9 ∧ 0 < zI T j
        · have g := w2 j hj e e2.1
          rw [if_pos e2, if_pos e2, if_neg (fun z => by have := g.2.1; rw [z.1] at this; omega)]
        · rw [if_neg e2, if_neg e2]
  · rw [row9 (by decide), row10 (by decide), if_neg (by omega), if_neg (by omega)]; exact hT.2.1 j hj hj6
  · rw [mi_t (by decide), mi_t (by decide), mi_t (by decide)]; exact hT.2.2.1 b hb
  · show _ = o9 (if updN (zS T) c (zS T c + 1) c' = 0 then 9 else (if c' = c ∧ updN (zS T) c (zS T c + 1) c' - 1 = zS T c then k else zA T c' (updN (zS T) c (zS T c + 1) c' - 1)))
    by_cases e : c' = c
    · subst e
      rw [mi_s, updN_s, if_neg (by omega), if_pos ⟨rfl, by omega⟩, o9_n (by omega)]
    · rw [mi_k e, mi_t (by decide), mi_t (by decide), updN_n e, hT.2.2.2 c' hc']
      congr 1
      unfold tpT
      rw [show (if c' = c ∧ zS T c' - 1 = zS T c then k else zA T c' (zS T c' - 1)) = zA T c' (zS T c' - 1) from if_neg (fun z => e z.1)]
theorem land_box (hw : wf1 so n T k) (hn : n ≤ 6) (hT : tab1 μ t n T k) (hb6 : b < n) (hN : zN T b = 9) : tabC (m_i (m_i (m_i μ 9 t k (nI (8 + b))) 10 t k nONE) 11 t b (nI k)) t n (pbT T k b) := by
  obtain ⟨w1, w2, w3, w4, w5, hk, hb⟩ := hw
  refine ⟨fun j hj => ?_, fun j hj hj6 => ?_, fun b' hb' => ?_, fun c' hc' => ?_⟩
  · rw [row9 (by decide), row10 (by decide)]
    by_cases e : j = k
    · subst e
      rw [if_pos rfl, if_pos rfl]
      refine ⟨congrArg nI ?_, ?_⟩
      · show 8 + b = if updN (zB T) j b j = 9 then zC T j else 8 + updN (zB T) j b j
        rw [updN_s, if_neg (by omega)]
      · show o9 9 = o9 (if updN (zB T) j b j = 9 ∧ 0 < zI T j then zA T (zC T j) (zI T j - 1) else 9)
        rw [updN_s, if_neg (fun z => by omega)]
    · rw [if_neg e, if_neg e, (hT.1 j hj e).1, (hT.1 j hj e).2]
      refine ⟨congrArg nI ?_, congrArg o9 ?_⟩
      · show (if zB T j = 9 then zC T j else 8 + zB T j) = if updN (zB T) k b j = 9 then zC T j else 8 + updN (zB T) k b j
        rw [updN_n e]
      · show (if zB T j = 9 ∧ 0 < zI T j then zA T (zC T j) (zI T j - 1) else 9) = if updN (zB T) k b j = 9 ∧ 0 < zI T j then zA T (zC T j) (zI T j - 1) else 9
        rw [updN_n e]
  · rw [row9 (by decide), row10 (by decide), if_neg (by omega), if_neg (by omega)]; exact hT.2.1 j hj hj6
  · show _ = o9 (updN (zN T) b k b')
    by_cases e : b' = b
    · subst e; rw [mi_s, updN_s, o9_n (by omega)]
    · rw [mi_k e, mi_t (by decide), mi_t (by decide), updN_n e]; exact hT.2.2.1 b' hb'
  · rw [mi_t (by decide), mi_t (by decide), mi_t (by decide)]; exact hT.2.2.2 c' hc'
theorem c9_land (hx : x = nI k) (hy : y = nI a) (hw : wf1 so n T k) (hn : n ≤ 6) (hT : tab1 μ t n T k) (ha : a < 8 ∨ 8 ≤ a ∧ a - 8 < n ∧ zN T (a - 8) = 9) (h : ∀ μ', agT t μ μ' → tabC μ' t n (if a < 8 then pcT T k a else pbT T k (a - 8)) → Q 0 0 (0, 0) μ') : Call (d + 2) n9_land [sR 8 t, sI x, sI y] μ Q := by
  subst hx; subst hy
  have hk := hw.2.2.2.2.2.1
  refine call_go (cd := k9_land) 60 rfl rfl ?_
  refine c11_isWithin (b := 6) rfl rfl (by omega) (by omega) (fun e => ?_) (fun e => absurd e (by omega))
  refine brF (by decide) ?_
  refine c11_isWithin (b := 14) rfl rfl (by omega) (by omega) (fun e => ?_) (fun e => absurd e (by omega))
  refine brnF (by decide) ?_
  refine And.intro (by simp (disch := first | omega | (simp (disch := omega) only [nI_toInt, Int32.reduceToInt, i_sub, i_add, i_mul]; omega)) only [iNONE, i_lt, i_le, i_eq, i_in, nI_toInt, Int32.reduceToInt, i_sub, i_add, i_mul]; omega) ?_
  by_cases e1 : a < 8
  · rw [if_pos e1] at h
    refine brT (by simp (disch := first | omega | (simp (disch := omega) only [nI_toInt, Int32.reduceToInt, i_sub, i_add, i_mul]; omega)) only [iNONE, i_lt, i_le, i_eq, i_in, nI_toInt, Int32.reduceToInt, i_sub, i_add, i_mul]; omega) ?_
    refine And.intro (by simp (disch := first | omega | (simp (disch := omega) only [nI_toInt, Int32.reduceToInt, i_sub, i_add, i_mul]; omega)) only [iNONE, i_lt, i_le, i_eq, i_in, nI_toInt, Int32.reduceToInt, i_sub, i_add, i_mul]; omega) ?_
    refine And.intro (by simp (disch := first | omega | (simp (disch := omega) only [nI_toInt, Int32.reduceToInt, i_sub, i_add, i_mul]; omega)) only [iNONE, i_lt, i_le, i_eq, i_in, nI_toInt, Int32.reduceToInt, i_sub, i_add, i_mul]; omega) ?_
    refine And.intro (by simp (disch := first | omega | (simp (disch := omega) only [nI_toInt, Int32.reduceToInt, i_sub, i_add, i_mul]; omega)) only [iNONE, i_lt, i_le, i_eq, i_in, nI_toInt, Int32.reduceToInt, i_sub, i_add, i_mul]; omega) ?_
    rw [nI_clamp (n := k) (by omega), nI_clamp (n := a) (by omega)]
    exact h _ (((agT.rf.mi (by decide)).mi (by decide)).mi (by decide)) (land_cell hw hn hT e1)
  · rw [if_neg e1] at h
    refine brF (by simp (disch := first | omega | (simp (disch := omega) only [nI_toInt, Int32.reduceToInt, i_sub, i_add, i_mul]; omega)) only [iNONE, i_lt, i_le, i_eq, i_in, nI_toInt, Int32.reduceToInt, i_sub, i_add, i_mul]; omega) ?_
    refine And.intro (by simp (disch := first | omega | (simp (disch := omega) only [nI_toInt, Int32.reduceToInt, i_sub, i_add, i_mul]; omega)) only [iNONE, i_lt, i_le, i_eq, i_in, nI_toInt, Int32.reduceToInt, i_sub, i_add, i_mul]; omega) ?_
    have e2 : nI a - 8 = nI (a - 8) := nI_sub (a := a) (b := 8) (by omega)
    refine And.intro (by rw [e2]; exact vp_in_nI (by omega) (by decide)) ?_
    rw [e2, nI_clamp (n := k) (by omega), nI_clamp (n := a - 8) (by omega)]
    have g := land_box hw hn hT (b := a - 8) (by omega) (by omega)
    rw [show 8 + (a - 8) = a by omega] at g
    exact h _ (((agT.rf.mi (by decide)).mi (by decide)).mi (by decide)) g
end CG
