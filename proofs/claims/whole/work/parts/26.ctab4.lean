/-! counting and the rest of what a table tells -/
noncomputable def tB (P : Prop) : Nat := @ite Nat P (Classical.propDecidable P) 1 0
theorem tB_t {P : Prop} (h : P) : tB P = 1 := if_pos h
theorem tB_f {P : Prop} (h : ¬ P) : tB P = 0 := if_neg h
theorem tB_le {P : Prop} : tB P ≤ 1 := by
  by_cases h : P
  · rw [tB_t h]; exact Nat.le_refl 1
  · rw [tB_f h]; exact Nat.zero_le 1
def sumN (f : Nat → Nat) : Nat → Nat
  | 0 => 0
  | n + 1 => sumN f n + f n
theorem sumN_le {f : Nat → Nat} {b : Nat} : ∀ {n : Nat}, (∀ i, i < n → f i ≤ b) → sumN f n ≤ b * n
  | 0, _ => Nat.zero_le _
  | n + 1, h => by
    have h1 := sumN_le (n := n) (fun i hi => h i (by omega))
    have h2 := h n (by omega)
    show sumN f n + f n ≤ b * (n + 1)
    rw [Nat.mul_add, Nat.mul_one]
    omega
theorem sumN_mono {f : Nat → Nat} {n : Nat} : ∀ {m : Nat}, n ≤ m → sumN f n ≤ sumN f m
  | 0, h => by rw [show n = 0 by omega]; exact Nat.le_refl _
  | m + 1, h => by
    by_cases e : n = m + 1
    · rw [e]; exact Nat.le_refl _
    · have := sumN_mono (f := f) (n := n) (m := m) (by omega)
      show sumN f n ≤ sumN f m + f m
      omega
def dpT (T : tT) (k : Nat) : Nat := if zB T k = 9 then zI T k else 0
def chT (T : tT) (k j : Nat) : Nat := if zB T k = 9 ∧ j < zI T k then zA T (zC T k) (zI T k - 1 - j) else 9
theorem ch_0 (T : tT) (k : Nat) : chT T k 0 = blT T k := by
  unfold chT blT
  rw [Nat.sub_zero]
noncomputable def kdT (so : Nat → Nat) (n : Nat) (T : tT) (k : Nat) : Nat := if so k = 0 then 1 else if so k = 1 then 2 else if so k = 2 then 3 + tB (shT so n T k) else 5
section CT
variable {d t n k c s a b r : Nat} {μ : sM} {Q : sQ} {so wt : Nat → Nat} {T : tT} {x y z : Int32}
theorem ch_1 (hw : wfT so n T) (hk : k < n) (hb : zB T k = 9) {j : Nat} (hj : j < zI T k) : chT T k j < n ∧ blT T (chT T k j) = chT T k (j + 1) := by
  have h1 := hw.2.1 k hk hb
  have h2 := hw.1 (zC T k) (zI T k - 1 - j) h1.1 (by omega)
  have e : chT T k j = zA T (zC T k) (zI T k - 1 - j) := if_pos ⟨hb, hj⟩
  rw [e]
  refine ⟨h2.1, ?_⟩
  unfold blT chT
  rw [h2.2.1, h2.2.2.1, h2.2.2.2]
  by_cases e2 : j + 1 < zI T k
  · rw [if_pos ⟨rfl, by omega⟩, if_pos ⟨hb, e2⟩, show zI T k - 1 - j - 1 = zI T k - 1 - (j + 1) by omega]
  · rw [if_neg (fun z => by omega), if_neg (fun z => e2 z.2)]
theorem c9_depthOf (hx : x = nI k) (hw : wfT so n T) (hn : n ≤ 6) (hT : tabC μ t n T) (hk : k < n) (h : Q (nI (dpT T k)) 0 (0, 0) μ) : Call (d + 2) n9_depthOf [sR 8 t, sI x] μ Q := by
  subst hx
  have hd : dpT T k < 6 ∧ (0 < dpT T k → zB T k = 9 ∧ dpT T k = zI T k) := by
    unfold dpT
    by_cases e : zB T k = 9
    · have := wf_cell hw hk e
      rw [if_pos e]; exact ⟨by omega, fun _ => ⟨e, rfl⟩⟩
    · rw [if_neg e]; exact ⟨by omega, fun z => absurd z (by omega)⟩
  refine call_go (cd := k9_depthOf) 8 rfl rfl ?_
  refine c9_belowOf rfl (by omega) ?_
  rw [(hT.1 k hk).2, ← ch_0]
  refine loopF (cd := k9_depthOf) (d := d + 1) (Q := Q) (dpT T k) (fun i j => [some (sR 8 t), some (sI (nI k)), some (sI j), some (sI (o9 (chT T k i))), some (sI j)]) (fun _ => μ) 11 ?_ (fun i hi kk => ?_)
  · refine run_go 3 ?_
    refine brF (by simp (disch := first | omega | (simp (disch := omega) only [nI_toInt, Int32.reduceToInt, i_sub, i_add, i_mul]; omega)) only [iNONE, i_lt, i_le, i_eq, i_in, nI_toInt, Int32.reduceToInt, i_sub, i_add, i_mul]; omega) ?_
    refine run_go 3 ?_
    refine brT (by
      unfold chT
      rw [if_neg (fun z => by have := z.2; unfold dpT at this; rw [if_pos z.1] at this; omega)]; rfl) ?_
    refine run_go 2 ?_
    exact h
  · have h1 := hd.2 (by omega)
    have h2 := ch_1 hw hk h1.1 (j := i) (by omega)
    refine run_go 3 ?_
    refine brF (by simp (disch := first | omega | (simp (disch := omega) only [nI_toInt, Int32.reduceToInt, i_sub, i_add, i_mul]; omega)) only [iNONE, i_lt, i_le, i_eq, i_in, nI_toInt, Int32.reduceToInt, i_sub, i_add, i_mul]; omega) ?_
    refine run_go 3 ?_
    refine brF (by rw [show (-1000000 : Int32) = nONE from rfl, o9_none (by omega)]; omega) ?_
    refine run_go 7 ?_
    refine c9_belowOf (o9_n (by omega)) (by omega) ?_
    rw [(hT.1 _ h2.1).2, h2.2]
    exact kk
theorem c9_heightOf (hx : x = nI c) (hw : wfT so n T) (hn : n ≤ 6) (hT : tabC μ t n T) (hc : c < 8) (h : Q (nI (zS T c)) 0 (0, 0) μ) : Call (d + 3) n9_heightOf [sR 8 t, sI x] μ Q := by
  subst hx
  have ht := wf_top hw hc
  refine call_go (cd := k9_heightOf) 30 rfl rfl ?_
  refine c9_topOf rfl hc ?_
  rw [hT.2.2.2 c hc]
  by_cases e : zS T c = 0
  · have e2 : tpT T c = 9 := if_pos e
    refine brnT (by rw [e2]; rfl) ?_
    rw [e] at h
    exact h
  · have e2 : tpT T c = zA T c (zS T c - 1) := if_neg e
    have h1 := hw.1 c (zS T c - 1) hc (by omega)
    refine brnF (by rw [show (-1000000 : Int32) = nONE from rfl, o9_none (by omega)]; omega) ?_
    refine c9_depthOf (k := zA T c (zS T c - 1)) (by rw [e2, o9_n (by omega)]) hw hn hT h1.1 ?_
    have e3 : dpT T (zA T c (zS T c - 1)) = zS T c - 1 := by
      unfold dpT; rw [if_pos h1.2.1]; exact h1.2.2.2
    have e4 : nI (dpT T (zA T c (zS T c - 1))) + 1 = nI (zS T c) := by rw [e3, nI_1, show zS T c - 1 + 1 = zS T c by omega]
    rw [← e4] at h
    exact h
theorem c9_foundAt (hx : x = nI c) (hw : wfT so n T) (hS : stkC μ n so wt) (hT : tabC μ t n T) (hc : c < 8) (h1 : ∀ i, i < zS T c → y = nI i → Q (nI (zA T c i)) 0 (0, 0) μ) (h2 : (∀ i, i < zS T c → ¬ y = nI i) → Q nONE 0 (0, 0) μ) : Call (d + 3) n9_foundAt [sR 8 t, sI x, sI y] μ Q := by
  subst hx
  have hn := hS.2.1
  refine call_go (cd := k9_foundAt) 2 rfl rfl ?_
  refine loopS (cd := k9_foundAt) (d := d + 2) (Q := Q) n (fun o => zB T o = 9 ∧ zC T o = c ∧ y = nI (zI T o)) (fun j => [some (sR 8 t), some (sI (nI c)), some (sI y), some (sI j)]) μ 2 (fun hp => ?_) (fun i hi hp kk => ?_)
  · refine run_go 5 ?_
    refine c8_size hS ?_
    refine brT (by simp (disch := first | omega | (simp (disch := omega) only [nI_toInt, Int32.reduceToInt, i_sub, i_add, i_mul]; omega)) only [iNONE, i_lt, i_le, i_eq, i_in, nI_toInt, Int32.reduceToInt, i_sub, i_add, i_mul]; omega) ?_
    refine run_go 2 ?_
    refine h2 (fun i hi e => ?_)
    have h3 := hw.1 c i hc hi
    exact hp (zA T c i) h3.1 ⟨h3.2.1, h3.2.2.1, by rw [h3.2.2.2]; exact e⟩
  · have h5 := wf_spot hw hn hi
    refine run_go 5 ?_
    refine c8_size hS ?_
    refine brF (by simp (disch := first | omega | (simp (disch := omega) only [nI_toInt, Int32.reduceToInt, i_sub, i_add, i_mul]; omega)) only [iNONE, i_lt, i_le, i_eq, i_in, nI_toInt, Int32.reduceToInt, i_sub, i_add, i_mul]; omega) ?_
    refine run_go 5 ?_
    refine c9_spotOf rfl (by omega) ?_
    rw [(hT.1 i hi).1]
    by_cases e1 : zB T i = 9 ∧ zC T i = c
    · have h7 := h5.2.2.2 e1.1
      refine brnT (by rw [h7.1, e1.2]) ?_
      refine run_go 5 ?_
      refine c9_depthOf rfl hw hn hT hi ?_
      have e3 : dpT T i = zI T i := if_pos e1.1
      rw [e3]
      refine And.intro (fun c1 => ?_) (fun c1 => ?_)
      · refine run_go 2 ?_
        exact kk (fun z => c1 z.2.2.symm)
      · refine run_go 2 ?_
        have h8 := hw.2.1 i hi e1.1
        rw [e1.2] at h8
        have h9 := h1 (zI T i) h8.2.1 c1.symm
        rw [h8.2.2] at h9
        exact h9
    · refine brnF ?_ ?_
      · by_cases e2 : zB T i = 9
        · have h7 := h5.2.2.2 e2
          rw [h7.1]
          exact fun z => e1 ⟨e2, (nI_eq (by omega) (by omega)).mp z⟩
        · have h7 := h5.2.2.1 e2
          simp (disch := first | omega | (simp (disch := omega) only [nI_toInt, Int32.reduceToInt, i_sub, i_add, i_mul]; omega)) only [iNONE, i_lt, i_le, i_eq, i_in, nI_toInt, Int32.reduceToInt, i_sub, i_add, i_mul] at ⊢
          omega
      · refine run_go 2 ?_
        exact kk (fun z => e1 ⟨z.1, z.2.1⟩)
end CT
