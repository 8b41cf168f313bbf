/-! two tables are the same -/
section SM
variable {d t n k c s a b r u o i rel : Nat} {μ : sM} {Q : sQ} {so wt : Nat → Nat} {T T' : tT} {x y z w : Int32}
def smT (n : Nat) (T T' : tT) : Prop := ∀ k, k < n → spT T' k = spT T k ∧ blT T' k = blT T k
theorem sm_box (hw : wfT so n T) (hw' : wfT so n T') (hn : n ≤ 6) (h : smT n T T') (hk : k < n) : zB T' k = zB T k ∧ (zB T k = 9 → zC T' k = zC T k) := by
  have h1 := wf_spot hw hn hk
  have h2 := wf_spot hw' hn hk
  have h3 := (h k hk).1
  by_cases e : zB T k = 9
  · by_cases e' : zB T' k = 9
    · have := h1.2.2.2 e
      have := h2.2.2.2 e'
      exact ⟨by omega, fun _ => by omega⟩
    · have := h1.2.2.2 e
      have := h2.2.2.1 e'
      omega
  · by_cases e' : zB T' k = 9
    · have := h1.2.2.1 e
      have := h2.2.2.2 e'
      omega
    · have := h1.2.2.1 e
      have := h2.2.2.1 e'
      exact ⟨by omega, fun z => absurd z e⟩
theorem sm_ix (hw : wfT so n T) (hw' : wfT so n T') (hn : n ≤ 6) (h : smT n T T') : ∀ (m k : Nat), k < n → zB T k = 9 → zI T k = m → zI T' k = m := by
  intro m
  induction m with
  | zero =>
    intro k hk hb hm
    have hb' := (sm_box hw hw' hn h hk).1
    have h3 := (h k hk).2
    have e1 : blT T k = 9 := if_neg (fun z => by omega)
    by_cases e : zI T' k = 0
    · exact e
    · have e2 : blT T' k = zA T' (zC T' k) (zI T' k - 1) := if_pos ⟨by omega, by omega⟩
      have hq := hw'.2.1 k hk (by omega)
      have g := hw'.1 (zC T' k) (zI T' k - 1) hq.1 (by omega)
      omega
  | succ m ih =>
    intro k hk hb hm
    have hb' := (sm_box hw hw' hn h hk).1
    have h3 := (h k hk).2
    have e1 : blT T k = zA T (zC T k) (zI T k - 1) := if_pos ⟨hb, by omega⟩
    have hq := hw.2.1 k hk hb
    have g := hw.1 (zC T k) (zI T k - 1) hq.1 (by omega)
    rw [← e1] at g
    have g2 := ih (blT T k) g.1 g.2.1 (by omega)
    by_cases e : 0 < zI T' k
    · have e2 : blT T' k = zA T' (zC T' k) (zI T' k - 1) := if_pos ⟨by omega, e⟩
      have hq' := hw'.2.1 k hk (by omega)
      have g' := hw'.1 (zC T' k) (zI T' k - 1) hq'.1 (by omega)
      rw [← e2, h3, g2] at g'
      omega
    · have e2 : blT T' k = 9 := if_neg (fun z => e z.2)
      omega
theorem sm_sz (hw : wfT so n T) (hw' : wfT so n T') (hn : n ≤ 6) (h : smT n T T') (hc : c < 8) : zS T c ≤ zS T' c ∧ ∀ i, i < zS T c → zA T' c i = zA T c i := by
  have key : ∀ i, i < zS T c → i < zS T' c ∧ zA T' c i = zA T c i := by
    intro i hi
    have g := hw.1 c i hc hi
    have g1 := sm_box hw hw' hn h g.1
    have g2 := sm_ix hw hw' hn h i (zA T c i) g.1 g.2.1 g.2.2.2
    have g3 := hw'.2.1 (zA T c i) g.1 (by rw [g1.1]; exact g.2.1)
    have g4 := g1.2 g.2.1
    rw [g2, g4, g.2.2.1] at g3
    exact g3.2
  refine ⟨?_, fun i hi => (key i hi).2⟩
  by_cases e : zS T c = 0
  · omega
  · have := (key (zS T c - 1) (by omega)).1
    omega
theorem smT.sy (h : smT n T T') : smT n T' T := fun k hk => ⟨(h k hk).1.symm, (h k hk).2.symm⟩
theorem sm_eq (hw : wfT so n T) (hw' : wfT so n T') (hn : n ≤ 6) (h : smT n T T') : eqT n T T' := by
  have hz : ∀ c, c < 8 → zS T' c = zS T c := fun c hc => by
    have h1 := (sm_sz hw hw' hn h hc).1
    have h2 := (sm_sz hw' hw hn h.sy hc).1
    omega
  refine ⟨hz, fun c i hc hi => (sm_sz hw hw' hn h hc).2 i hi, fun k => ?_, fun k hk hb => ⟨(sm_box hw hw' hn h hk).2 hb, sm_ix hw hw' hn h _ k hk hb rfl⟩⟩
  by_cases e : k < n
  · refine ⟨(sm_box hw hw' hn h e).1, ?_⟩
    by_cases e1 : zN T k = 9
    · by_cases e2 : zN T' k = 9
      · rw [e1, e2]
      · have g := hw'.2.2.2.1 k e e2
        have g2 := (sm_box hw hw' hn h g.1).1
        have g3 := hw.2.2.1 (zN T' k) g.1 (by omega)
        rw [← g2, g.2] at g3
        exact g3.2.2.2.2.symm
    · have g := hw.2.2.2.1 k e e1
      have g2 := (sm_box hw hw' hn h g.1).1
      have g3 := hw'.2.2.1 (zN T k) g.1 (by omega)
      rw [g2, g.2] at g3
      exact g3.2.2.2.2
  · have g := hw.2.2.2.2 k (by omega)
    have g' := hw'.2.2.2.2 k (by omega)
    exact ⟨by omega, by omega⟩
theorem eq_sm (hw : wfT so n T) (h : eqT n T T') : smT n T T' := fun _ hk => h.sp hw hk
theorem cd_inj (hw : wfT so n T) (hw' : wfT so n T') (hn : n ≤ 6) (hk : k < n) (h : cdT T' k = cdT T k) : spT T' k = spT T k ∧ blT T' k = blT T k := by
  have h1 := cd_lt hw hn hk
  have h2 := cd_lt hw' hn hk
  have h3 := wf_below hw hk
  have h4 := wf_below hw' hk
  unfold cdT at h
  have e1 : spT T' k = spT T k := by omega
  refine ⟨e1, ?_⟩
  have e2 : v9 (blT T' k) = v9 (blT T k) := by omega
  unfold v9 at e2
  split at e2 <;> split at e2 <;> omega
theorem pc_inj (hw : wfT so n T) (hw' : wfT so n T') (hn : n ≤ 6) : ∀ i, i ≤ n → pcN T' i = pcN T i → ∀ k, k < i → cdT T' k = cdT T k
  | 0, _, _, k, hk => absurd hk (Nat.not_lt_zero k)
  | i + 1, hi, h, k, hk => by
    have h1 := cd_lt hw hn (k := i) (by omega)
    have h2 := cd_lt hw' hn (k := i) (by omega)
    have h : pcN T' i * 128 + cdT T' i = pcN T i * 128 + cdT T i := h
    by_cases e : k = i
    · subst e; omega
    · exact pc_inj hw hw' hn i (by omega) (by omega) k (by omega)
theorem pc_eq : ∀ i, (∀ k, k < i → cdT T' k = cdT T k) → pcN T' i = pcN T i
  | 0, _ => rfl
  | i + 1, h => by
    show pcN T' i * 128 + cdT T' i = pcN T i * 128 + cdT T i
    rw [pc_eq i (fun k hk => h k (by omega)), h i (by omega)]
/-- pictures are equal just if the tables are -/
theorem pic_iff (hw : wfT so n T) (hw' : wfT so n T') (hn : n ≤ 6) : pcN T' n = pcN T n ↔ eqT n T T' := by
  constructor
  · intro h
    exact sm_eq hw hw' hn (fun k hk => cd_inj hw hw' hn hk (pc_inj hw hw' hn n (Nat.le_refl n) h k hk))
  · intro h
    refine pc_eq n (fun k hk => ?_)
    unfold cdT
    rw [(h.sp hw hk).1, (h.sp hw hk).2]
theorem l64_inj {a b : Nat} (ha : a < 2 ^ 62) (hb : b < 2 ^ 62) : Int64.ofNat a = Int64.ofNat b ↔ a = b := by
  constructor
  · intro h
    have h1 : (Int64.ofNat a).toBitVec.toNat = (Int64.ofNat b).toBitVec.toNat := by rw [h]
    have h2 : a % 2 ^ 64 = b % 2 ^ 64 := h1
    omega
  · rintro rfl; rfl
theorem pc_62 (hw : wfT so n T) (hn : n ≤ 6) : pcN T n < 2 ^ 62 := by
  have h1 := pc_lt hw hn n (Nat.le_refl n)
  have h4 : 128 ^ n ≤ 128 ^ 6 := Nat.pow_le_pow_right (by decide) hn
  exact Nat.lt_of_lt_of_le h1 (Nat.le_trans h4 (by decide))
theorem row_eq (hw : wfT so n T) (hw' : wfT so n T') (hn : n ≤ 6) (hT : tabR μ u T) (hT' : tabR μ r T') : (∀ k, k < 62 → μ.1 42 0 (62 * u + k) = μ.1 42 0 (62 * r + k)) ↔ eqT n T T' := by
  constructor
  · intro h
    have hz : ∀ c, c < 8 → zS T' c = zS T c := fun c hc => by
      have h1 := h (7 * c) (by omega)
      rw [hT.1 c hc, hT'.1 c hc] at h1
      have g1 := wf_size hw hc
      have g2 := wf_size hw' hc
      exact ((nI_eq (by omega) (by omega)).mp h1).symm
    have hA : ∀ c i, c < 8 → i < zS T c → zA T' c i = zA T c i := fun c i hc hi => by
      have g1 := wf_size hw hc
      have h1 := h (7 * c + 1 + i) (by omega)
      rw [show 62 * u + (7 * c + 1 + i) = 62 * u + 7 * c + 1 + i by omega, show 62 * r + (7 * c + 1 + i) = 62 * r + 7 * c + 1 + i by omega, hT.2.1 c i hc (by omega), hT'.2.1 c i hc (by omega), if_pos hi, if_pos (by rw [hz c hc]; exact hi)] at h1
      have q1 := (hw.1 c i hc hi).1
      have q2 := (hw'.1 c i hc (by rw [hz c hc]; exact hi)).1
      exact ((nI_eq (by omega) (by omega)).mp h1).symm
    have hB : ∀ k, k < n → zB T' k = zB T k := fun k hk => by
      have h1 := h (56 + k) (by omega)
      rw [show 62 * u + (56 + k) = 62 * u + 56 + k by omega, show 62 * r + (56 + k) = 62 * r + 56 + k by omega, hT.2.2 k (by omega), hT'.2.2 k (by omega)] at h1
      have q1 := wf_bx hw hk
      have q2 := wf_bx hw' hk
      by_cases e1 : zB T k = 9
      · by_cases e2 : zB T' k = 9
        · omega
        · rw [if_pos e1, if_neg e2] at h1
          simp (disch := first | omega | (simp (disch := omega) only [nI_toInt, Int32.reduceToInt, i_sub, i_add, i_mul]; omega)) only [iNONE, i_lt, i_le, i_eq, i_in, nI_toInt, Int32.reduceToInt, i_sub, i_add, i_mul] at h1
          omega
      · by_cases e2 : zB T' k = 9
        · rw [if_neg e1, if_pos e2] at h1
          simp (disch := first | omega | (simp (disch := omega) only [nI_toInt, Int32.reduceToInt, i_sub, i_add, i_mul]; omega)) only [iNONE, i_lt, i_le, i_eq, i_in, nI_toInt, Int32.reduceToInt, i_sub, i_add, i_mul] at h1
          omega
        · rw [if_neg e1, if_neg e2] at h1
          exact ((nI_eq (by omega) (by omega)).mp h1).symm
    have hC : ∀ k, k < n → zB T k = 9 → zC T' k = zC T k ∧ zI T' k = zI T k := fun k hk hb => by
      have q := hw.2.1 k hk hb
      have q2 := hw'.1 (zC T k) (zI T k) q.1 (by rw [hz _ q.1]; exact q.2.1)
      rw [hA _ _ q.1 q.2.1, q.2.2] at q2
      exact q2.2.2
    refine sm_eq hw hw' hn (fun k hk => ?_)
    unfold spT blT
    rw [hB k hk]
    by_cases e : zB T k = 9
    · have q := hC k hk e
      have q1 := hw.2.1 k hk e
      rw [if_pos e, if_pos e, q.1, q.2]
      refine ⟨rfl, ?_⟩
      by_cases e2 : 0 < zI T k
      · rw [if_pos ⟨e, e2⟩, if_pos ⟨e, e2⟩, hA _ _ q1.1 (by omega)]
      · rw [if_neg (fun z => e2 z.2), if_neg (fun z => e2 z.2)]
    · rw [if_neg e, if_neg e, if_neg (fun z => e z.1), if_neg (fun z => e z.1)]
      exact ⟨rfl, rfl⟩
  · intro h k hk
    have g := tabR.eq hT h
    by_cases e : k < 56
    · by_cases e2 : k % 7 = 0
      · have q1 := g.1 (k / 7) (by omega)
        have q2 := hT'.1 (k / 7) (by omega)
        rw [show 62 * u + 7 * (k / 7) = 62 * u + k by omega] at q1
        rw [show 62 * r + 7 * (k / 7) = 62 * r + k by omega] at q2
        rw [q1, q2]
      · have q1 := g.2.1 (k / 7) (k % 7 - 1) (by omega) (by omega)
        have q2 := hT'.2.1 (k / 7) (k % 7 - 1) (by omega) (by omega)
        rw [show 62 * u + 7 * (k / 7) + 1 + (k % 7 - 1) = 62 * u + k by omega] at q1
        rw [show 62 * r + 7 * (k / 7) + 1 + (k % 7 - 1) = 62 * r + k by omega] at q2
        rw [q1, q2]
    · have q1 := g.2.2 (k - 56) (by omega)
      have q2 := hT'.2.2 (k - 56) (by omega)
      rw [show 62 * u + 56 + (k - 56) = 62 * u + k by omega] at q1
      rw [show 62 * r + 56 + (k - 56) = 62 * r + k by omega] at q2
      rw [q1, q2]
theorem r12_isSame (hx : x = nI u) (hy : y = nI r) (hu : u < 108) (hr : r < 108) (hw : wfT so n T) (hw' : wfT so n T') (hn : n ≤ 6) (hT : tabR μ u T) (hT' : tabR μ r T') (h1 : eqT n T T' → Q 1 0 (0, 0) μ) (h2 : ¬ eqT n T T' → Q 0 0 (0, 0) μ) : Call (d + 1) n12_isSame [sR 41 0, sI x, sI y] μ Q := by
  subst hx; subst hy
  have key := row_eq hw hw' hn hT hT'
  refine call_go (cd := k12_isSame) 4 rfl rfl ?_
  refine loopS (cd := k12_isSame) (d := d) (Q := Q) 62 (fun i => ¬ μ.1 42 0 (62 * u + i) = μ.1 42 0 (62 * r + i)) (fun j => [some (sR 41 0), some (sI (nI u)), some (sI (nI r)), some (sI 1), some (sI j)]) μ 5 (fun hp => ?_) (fun i hi hp kk => ?_)
  · refine run_go 20 ?_
    refine brT (by decide) ?_
    exact ⟨Or.inr rfl, h1 (key.mp (fun k hk => Classical.byContradiction (fun z => hp k hk z)))⟩
  · refine run_go 3 ?_
    refine brF (by simp (disch := first | omega | (simp (disch := omega) only [nI_toInt, Int32.reduceToInt, i_sub, i_add, i_mul]; omega)) only [iNONE, i_lt, i_le, i_eq, i_in, nI_toInt, Int32.reduceToInt, i_sub, i_add, i_mul]; omega) ?_
    refine run_go 2 ?_
    refine brF (by decide) ?_
    refine run_go 17 ?_
    refine And.intro (by rw [nI_62k]; exact vp_in_nI (by omega) (by decide)) ?_
    refine And.intro (by rw [nI_62k]; exact vp_in_nI (by omega) (by decide)) ?_
    rw [nI_62k, nI_62k, nI_clamp (by omega), nI_clamp (by omega)]
    refine And.intro (fun c1 => ?_) (fun c1 => ?_)
    · refine run_go 4 ?_
      have hq := h2 (fun z => c1 (key.mpr z i hi))
      refine run_go 3 ?_
      rw [nI_1]
      by_cases e : i + 1 < 62
      · refine brF (by simp (disch := first | omega | (simp (disch := omega) only [nI_toInt, Int32.reduceToInt, i_sub, i_add, i_mul]; omega)) only [iNONE, i_lt, i_le, i_eq, i_in, nI_toInt, Int32.reduceToInt, i_sub, i_add, i_mul]; omega) ?_
        refine run_go 20 ?_
        refine brT rfl ?_
        exact ⟨Or.inl rfl, hq⟩
      · refine brT (by simp (disch := first | omega | (simp (disch := omega) only [nI_toInt, Int32.reduceToInt, i_sub, i_add, i_mul]; omega)) only [iNONE, i_lt, i_le, i_eq, i_in, nI_toInt, Int32.reduceToInt, i_sub, i_add, i_mul]; omega) ?_
        refine run_go 20 ?_
        exact ⟨Or.inl rfl, hq⟩
    · refine run_go 5 ?_
      exact kk (fun z => z c1)
end SM
