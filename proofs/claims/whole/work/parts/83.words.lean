/-! words and numbers -/
def wls : List (List Nat) := [[109, 111, 115, 116], [110, 101, 118, 101, 114], [99, 117, 112], [99, 108, 111, 116, 104], [98, 111, 120], [108, 105, 100], [97, 116], [111, 110], [105, 110], [98, 101, 115, 105, 100, 101]]
def wLn (w : Nat) : Nat := (nth [] wls w).length
def wCh (w j : Nat) : Nat := nth 0 (nth [] wls w) j
def wdP (tl : Nat) (tp : Nat → Nat) (s w : Nat) : Prop := xK tl tp s = 1 ∧ xE tl tp s - s = wLn w ∧ ∀ j, j < wLn w → tp (s + j) = wCh w j
def pkW (f : Nat → Nat) : Nat → Nat
  | 0 => 0
  | l + 1 => pkW f l * 256 + f l
theorem pkW_lt {f : Nat → Nat} : ∀ l, (∀ j, j < l → f j < 256) → pkW f l < 256 ^ l
  | 0, _ => Nat.one_pos
  | l + 1, h => by
    have ih := pkW_lt (f := f) l (fun j hj => h j (by omega))
    have h2 := h l (by omega)
    show pkW f l * 256 + f l < 256 ^ (l + 1)
    rw [Nat.pow_succ]
    omega
theorem pkW_inj {f g : Nat → Nat} : ∀ l l', (∀ j, j < l → 0 < f j ∧ f j < 256) → (∀ j, j < l' → 0 < g j ∧ g j < 256) → pkW f l = pkW g l' → l = l' ∧ ∀ j, j < l → f j = g j
  | 0, 0, _, _, _ => ⟨rfl, fun j hj => absurd hj (Nat.not_lt_zero j)⟩
  | 0, l' + 1, _, hg, h => by
    have := hg l' (by omega)
    have h : 0 = pkW g l' * 256 + g l' := h
    omega
  | l + 1, 0, hf, _, h => by
    have := hf l (by omega)
    have h : pkW f l * 256 + f l = 0 := h
    omega
  | l + 1, l' + 1, hf, hg, h => by
    have h1 := hf l (by omega)
    have h2 := hg l' (by omega)
    have h : pkW f l * 256 + f l = pkW g l' * 256 + g l' := h
    have ih := pkW_inj (f := f) (g := g) l l' (fun j hj => hf j (by omega)) (fun j hj => hg j (by omega)) (by omega)
    refine ⟨by omega, fun j hj => ?_⟩
    by_cases e : j = l
    · rw [e]
      have : f l = g l' := by omega
      rw [ih.1]
      rw [ih.1] at this
      exact this
    · exact ih.2 j (by omega)
theorem pkW_eq {f g : Nat → Nat} : ∀ l, (∀ j, j < l → f j = g j) → pkW f l = pkW g l
  | 0, _ => rfl
  | l + 1, h => by
    show pkW f l * 256 + f l = pkW g l * 256 + g l
    rw [pkW_eq l (fun j hj => h j (by omega)), h l (by omega)]
def wdV (tl : Nat) (tp : Nat → Nat) (s : Nat) : Nat := if xK tl tp s = 1 ∧ xE tl tp s - s < 8 then pkW (fun j => tp (s + j)) (xE tl tp s - s) else 0
def wKn (w : Nat) : Nat := pkW (wCh w) (wLn w)
section OP
variable {d n k c s a b r u o i m p q t tl j w l : Nat} {tp : Nat → Nat} {μ μ' μ'' M : sM} {Q : sQ} {x y z v : Int32} {ξ : Nat → Nat → Int32}
theorem xK_1 (h : xK tl tp s = 1) : xC tl tp s = 1 := by
  unfold xK at h
  split at h
  · omega
  · exact h
theorem xK_2 (h : xK tl tp s = 2) : xC tl tp s = 2 ∧ xE tl tp s - s ≤ 3 := by
  unfold xK at h
  split at h
  · omega
  · rename_i e
    exact ⟨h, by omega⟩
theorem w_ok : ∀ w, w < 10 → 0 < wLn w ∧ wLn w < 8 ∧ 0 < wKn w ∧ wKn w < 2 ^ 62 ∧ ∀ j, j < wLn w → 0 < wCh w j ∧ wCh w j < 128 := by decide +kernel
theorem wdV_lt (hb : ∀ k, k < tl → tp k < 256) : wdV tl tp s < 2 ^ 62 := by
  unfold wdV
  by_cases e : xK tl tp s = 1 ∧ xE tl tp s - s < 8
  · rw [if_pos e]
    have xr := x_run (Or.inl (xK_1 e.1) : xC tl tp s = 1 ∨ xC tl tp s = 2)
    have h1 := pkW_lt (f := fun j => tp (s + j)) (xE tl tp s - s) (fun j hj => hb _ (by omega))
    exact Nat.lt_of_lt_of_le h1 (Nat.le_trans (Nat.pow_le_pow_right (by decide) (show xE tl tp s - s ≤ 7 by omega)) (by decide))
  · rw [if_neg e]; decide
theorem word_iff (hb : ∀ k, k < tl → tp k < 256) (hw : w < 10) : wdV tl tp s = wKn w ↔ wdP tl tp s w := by
  have ok := w_ok w hw
  unfold wdV wdP
  by_cases e : xK tl tp s = 1 ∧ xE tl tp s - s < 8
  · rw [if_pos e]
    have k1 := xK_1 e.1
    have xr := x_run (Or.inl k1 : xC tl tp s = 1 ∨ xC tl tp s = 2)
    constructor
    · intro z
      have q := pkW_inj (f := fun j => tp (s + j)) (g := wCh w) (xE tl tp s - s) (wLn w) (fun j hj => ⟨by have := xr.2.2.1 (s + j) (by omega) (by omega); have := cls1.mp (this.2.trans k1); omega, hb _ (by have := xr.2.2.1 (s + j) (by omega) (by omega); omega)⟩) (fun j hj => by have := ok.2.2.2.2 j hj; omega) z
      exact ⟨e.1, q.1, fun j hj => q.2 j (by omega)⟩
    · intro z
      unfold wKn
      rw [z.2.1]
      exact pkW_eq _ z.2.2
  · rw [if_neg e]
    exact ⟨fun z => absurd z (by omega), fun z => absurd ⟨z.1, by rw [z.2.1]; exact ok.2.1⟩ e⟩
theorem by_eq (hb : b < 256) (hc : c < 128) : byI b = nI c ↔ b = c := by
  rw [i_eq, by_cmp hb, nI_toInt (by omega)]
  split <;> omega
theorem pkW_sh {V b : Nat} (hV : V < 2 ^ 48) (hb : b < 256) : (Int64.ofNat V <<< ((8 : Int32).toInt64 &&& 63)) ||| (nI b).toInt64 = Int64.ofNat (V * 256 + b) := by
  have e8 : ((8 : Int32).toInt64 &&& 63) = 8 := by decide
  have e1 : (nI b).toInt64 = Int64.ofNat b := by
    rw [j_eq, j_of, nI_toInt (by omega)]
    have : (Int64.ofNat b).toBitVec.toNat = b := by
      show b % 2 ^ 64 = b
      omega
    show (b : Int) = (Int64.ofNat b).toBitVec.toInt
    rw [BitVec.toInt_eq_toNat_cond, if_pos (by omega), this]
  rw [e8, e1]
  have h : ((Int64.ofNat V <<< 8) ||| Int64.ofNat b).toBitVec.toNat = (Int64.ofNat (V * 256 + b)).toBitVec.toNat := by
    show ((V % 2 ^ 64) <<< 8 % 2 ^ 64) ||| (b % 2 ^ 64) = (V * 256 + b) % 2 ^ 64
    rw [Nat.mod_eq_of_lt (show V < 2 ^ 64 by omega), Nat.mod_eq_of_lt (show b < 2 ^ 64 by omega), Nat.shiftLeft_eq, Nat.mod_eq_of_lt (show V * 2 ^ 8 < 2 ^ 64 by omega), ← Nat.shiftLeft_eq, ← Nat.shiftLeft_add_eq_or_of_lt (show b < 2 ^ 8 by omega), Nat.shiftLeft_eq, Nat.mod_eq_of_lt (by omega)]
  exact Int64.toBitVec_inj.mp (BitVec.eq_of_toNat_eq h)
theorem r12_word (hT : tpR μ tl tp) (hk : tkR μ tl tp s) (h : Q 0 (Int64.ofNat (wdV tl tp s)) (0, 0) μ) : Call (d + 1) n12_word [sR 41 0] μ Q := by
  have ht := hT.1
  have hs := hk.1
  have xe := xE_le (tp := tp) hs
  have rk : ∀ k, k ≤ 5 → rkW k < 5 ∧ (rkW k = 2 ↔ k = 1) := by decide
  have xk : xK tl tp s ≤ 5 := by
    have := xC_le (tl := tl) (tp := tp) (s := s)
    unfold xK
    split <;> omega
  have rk := rk _ xk
  refine call_go (cd := k12_word) 5 rfl rfl ?_
  show Run k12_word (Call d) Q 7 [some (sR 41 0), some (sL 0), none, some (sI (μ.1 41 0 26))] [] μ
  rw [hk.2.2.1]
  by_cases e : xK tl tp s = 1 ∧ xE tl tp s - s < 8
  · rw [show wdV tl tp s = pkW (fun j => tp (s + j)) (xE tl tp s - s) from if_pos e] at h
    have xr := x_run (Or.inl (xK_1 e.1) : xC tl tp s = 1 ∨ xC tl tp s = 2)
    have k4 := hk.2.2.2 (by have := xr.2.2.1 s (by omega) (by omega); omega)
    refine loopC (cd := k12_word) (d := d) (Q := Q) (xE tl tp s - s) (fun i ls μ' => ls = [some (sR 41 0), some (sL (Int64.ofNat (pkW (fun j => tp (s + j)) i))), none, some (sI (nI (s + i)))] ∧ μ' = μ) 7 0 _ _ (Nat.zero_le _) ⟨rfl, rfl⟩ ?_
    rintro i ls μ1 hi ⟨rfl, rfl⟩ kk
    refine run_go 4 ?_
    by_cases q : i = xE tl tp s - s
    · subst q
      refine brT (by simp (disch := first | omega | (simp (disch := omega) only [nI_toInt, Int32.reduceToInt, i_sub, i_add, i_mul]; omega)) only [k4.1, iNONE, i_lt, i_le, i_eq, i_in, nI_toInt, Int32.reduceToInt, i_sub, i_add, i_mul]; omega) ?_
      refine run_go 5 ?_
      exact h
    · refine brF (by simp (disch := first | omega | (simp (disch := omega) only [nI_toInt, Int32.reduceToInt, i_sub, i_add, i_mul]; omega)) only [k4.1, iNONE, i_lt, i_le, i_eq, i_in, nI_toInt, Int32.reduceToInt, i_sub, i_add, i_mul]; omega) ?_
      have lt := xr.2.2.1 (s + i) (by omega) (by omega)
      have bt := hT.2.2 _ lt.1
      have pl := pkW_lt (f := fun j => tp (s + j)) i (fun j hj => (hT.2.2 _ (by omega)).1)
      have p48 : pkW (fun j => tp (s + j)) i < 2 ^ 48 := Nat.lt_of_lt_of_le pl (Nat.le_trans (Nat.pow_le_pow_right (by decide) (show i ≤ 6 by omega)) (by decide))
      refine run_go 4 ?_
      refine brnT (by rw [hk.2.1, rk.2.mpr e.1]; rfl) ?_
      refine run_go 7 ?_
      refine brF (by rw [k4.1, hk.2.2.1]; exact (by simp (disch := first | omega | (simp (disch := omega) only [nI_toInt, Int32.reduceToInt, i_sub, i_add, i_mul]; omega)) only [iNONE, i_lt, i_le, i_eq, i_in, nI_toInt, Int32.reduceToInt, i_sub, i_add, i_mul]; omega)) ?_
      refine run_go 12 ?_
      refine And.intro (by simp (disch := first | omega | (simp (disch := omega) only [nI_toInt, Int32.reduceToInt, i_sub, i_add, i_mul]; omega)) only [iNONE, i_lt, i_le, i_eq, i_in, nI_toInt, Int32.reduceToInt, i_sub, i_add, i_mul]; omega) ?_
      rw [nI_clamp (by omega), bt.2]
      exact kk _ _ (by omega) ⟨by rw [pkW_sh p48 bt.1, nI_1]; rfl, rfl⟩
  · rw [show wdV tl tp s = 0 from if_neg e] at h
    have out : Run k12_word (Call d) Q 56 [some (sR 41 0), some (sL 0), none, some (sI (nI s))] [] μ := by
      refine run_go 5 ?_
      exact h
    refine run_go 4 ?_
    refine And.intro (fun _ => out) (fun _ => ?_)
    refine run_go 4 ?_
    by_cases e1 : xK tl tp s = 1
    · have xr := x_run (Or.inl (xK_1 e1) : xC tl tp s = 1 ∨ xC tl tp s = 2)
      have k4 := hk.2.2.2 (by have := xr.2.2.1 s (by omega) (by omega); omega)
      refine brnT (by rw [hk.2.1, rk.2.mpr e1]; rfl) ?_
      refine run_go 7 ?_
      refine brT (by rw [k4.1, hk.2.2.1]; exact (by simp (disch := first | omega | (simp (disch := omega) only [nI_toInt, Int32.reduceToInt, i_sub, i_add, i_mul]; omega)) only [iNONE, i_lt, i_le, i_eq, i_in, nI_toInt, Int32.reduceToInt, i_sub, i_add, i_mul]; omega)) ?_
      exact out
    · refine brnF (by
        rw [hk.2.1]
        intro z
        exact e1 (rk.2.mp ((nI_eq (a := rkW (xK tl tp s)) (b := 2) (by omega) (by omega)).mp z))) ?_
      exact out
/-- the number told by a row of figures -/
def nmV (f : Nat → Nat) : Nat → Nat
  | 0 => 0
  | l + 1 => nmV f l * 10 + (f l - 48)
theorem nm_lt {f : Nat → Nat} : ∀ l, (∀ j, j < l → 48 ≤ f j ∧ f j ≤ 57) → nmV f l < 10 ^ l
  | 0, _ => Nat.one_pos
  | l + 1, h => by
    have ih := nm_lt (f := f) l (fun j hj => h j (by omega))
    have h2 := h l (by omega)
    show nmV f l * 10 + (f l - 48) < 10 ^ (l + 1)
    rw [Nat.pow_succ]
    omega
def nuV (tl : Nat) (tp : Nat → Nat) (s : Nat) : Nat := nmV (fun j => tp (s + j)) (xE tl tp s - s)
theorem nu_lt (h : xK tl tp s = 2) : nuV tl tp s < 1000 := by
  have k2 := xK_2 h
  have xr := x_run (Or.inr k2.1 : xC tl tp s = 1 ∨ xC tl tp s = 2)
  have := nm_lt (f := fun j => tp (s + j)) (xE tl tp s - s) (fun j hj => by
    have := xr.2.2.1 (s + j) (by omega) (by omega)
    exact cls2.mp (this.2.trans k2.1))
  exact Nat.lt_of_lt_of_le this (Nat.le_trans (Nat.pow_le_pow_right (by decide) k2.2) (by decide))
theorem c4_numberTold (hT : tpC μ tl tp) (hk : tkC μ tl tp s) (h2 : xK tl tp s = 2) (h : Q (nI (nuV tl tp s)) 0 (0, 0) μ) : Call (d + 1) n4_numberTold [sR 33 0] μ Q := by
  have ht := hT.1
  have k2 := xK_2 h2
  have xr := x_run (Or.inr k2.1 : xC tl tp s = 1 ∨ xC tl tp s = 2)
  refine call_go (cd := k4_numberTold) 5 rfl rfl ?_
  show Run k4_numberTold (Call d) Q 7 [some (sR 33 0), some (sI 0), some (sI (μ.1 33 0 4))] [] μ
  rw [hk.2.2.1]
  refine loopC (cd := k4_numberTold) (d := d) (Q := Q) (xE tl tp s - s) (fun i ls μ' => ls = [some (sR 33 0), some (sI (nI (nmV (fun j => tp (s + j)) i))), some (sI (nI (s + i)))] ∧ μ' = μ) 7 0 _ _ (Nat.zero_le _) ⟨rfl, rfl⟩ ?_
  rintro i ls μ1 hi ⟨rfl, rfl⟩ kk
  refine run_go 4 ?_
  by_cases q : i = xE tl tp s - s
  · subst q
    refine brT (by simp (disch := first | omega | (simp (disch := omega) only [nI_toInt, Int32.reduceToInt, i_sub, i_add, i_mul]; omega)) only [hk.2.2.2, iNONE, i_lt, i_le, i_eq, i_in, nI_toInt, Int32.reduceToInt, i_sub, i_add, i_mul]; omega) ?_
    refine run_go 5 ?_
    exact h
  · refine brF (by simp (disch := first | omega | (simp (disch := omega) only [nI_toInt, Int32.reduceToInt, i_sub, i_add, i_mul]; omega)) only [hk.2.2.2, iNONE, i_lt, i_le, i_eq, i_in, nI_toInt, Int32.reduceToInt, i_sub, i_add, i_mul]; omega) ?_
    have lt := xr.2.2.1 (s + i) (by omega) (by omega)
    have bt := hT.2.2 _ lt.1
    have cl := cls2.mp (lt.2.trans k2.1)
    have nl := nm_lt (f := fun j => tp (s + j)) i (fun j hj => by
      have := xr.2.2.1 (s + j) (by omega) (by omega)
      exact cls2.mp (this.2.trans k2.1))
    have n3 : 10 ^ i ≤ 10 ^ 3 := Nat.pow_le_pow_right (by decide) (by omega)
    refine run_go 3 ?_
    refine brF (by simp (disch := first | omega | (simp (disch := omega) only [nI_toInt, Int32.reduceToInt, i_sub, i_add, i_mul]; omega)) only [iNONE, i_lt, i_le, i_eq, i_in, nI_toInt, Int32.reduceToInt, i_sub, i_add, i_mul]; omega) ?_
    refine run_go 13 ?_
    refine And.intro (by simp (disch := first | omega | (simp (disch := omega) only [nI_toInt, Int32.reduceToInt, i_sub, i_add, i_mul]; omega)) only [iNONE, i_lt, i_le, i_eq, i_in, nI_toInt, Int32.reduceToInt, i_sub, i_add, i_mul]; omega) ?_
    rw [nI_clamp (by omega), bt.2, show byI (tp (s + i)) = nI (tp (s + i)) from if_pos (by omega)]
    refine kk _ _ (by omega) ⟨?_, rfl⟩
    rw [nI_1, show (10 : Int32) = nI 10 from rfl, show (48 : Int32) = nI 48 from rfl, nI_mul, nI_add, nI_sub (by omega), show nmV (fun j => tp (s + j)) i * 10 + tp (s + i) - 48 = nmV (fun j => tp (s + j)) i * 10 + (tp (s + i) - 48) by omega]
    rfl
theorem c4_isWord_0 (hT : tpC μ tl tp) (hk : tkC μ tl tp s) (h1 : wdP tl tp s 0 → Q 1 0 (0, 0) μ) (h2 : ¬ wdP tl tp s 0 → Q 0 0 (0, 0) μ) : Call (d + 1) n4_isWord [sR 33 0, sR 60 0] μ Q := by
  have ht := hT.1
  have hs := hk.1
  have xe := xE_le (tp := tp) hs
  have xk : xK tl tp s ≤ 5 := by
    have := xC_le (tl := tl) (tp := tp) (s := s)
    unfold xK
    split <;> omega
  have ch : ∀ j, j < 4 → nth 0 (nth [] strs 0) j = nI (wCh 0 j) ∧ wCh 0 j < 128 := by decide
  have no : ¬ wdP tl tp s 0 → Run k4_isWord (Call d) Q 28 [some (sR 33 0), some (sR 60 0)] [] μ := by
    intro z
    refine run_go 6 ?_
    refine brT rfl ?_
    refine run_go 5 ?_
    exact ⟨Or.inl rfl, h2 z⟩
  refine call_go (cd := k4_isWord) 4 rfl rfl ?_
  by_cases e : xK tl tp s = 1
  · refine brnT (by rw [hk.2.1, e]; rfl) ?_
    have k1 := xK_1 e
    have xr := x_run (Or.inl k1 : xC tl tp s = 1 ∨ xC tl tp s = 2)
    refine run_go 8 ?_
    by_cases e2 : xE tl tp s - s = 4
    · refine brnT (show μ.1 33 0 5 - μ.1 33 0 4 = nI 4 from by rw [hk.2.2.2, hk.2.2.1, nI_sub (by omega), e2]) ?_
      refine run_go 5 ?_
      refine loopC (cd := k4_isWord) (d := d) (Q := Q) 4 (fun i ls μ' => ls = [some (sR 33 0), some (sR 60 0), some (sI 1), some (sI (nI i))] ∧ μ' = μ ∧ ∀ j, j < i → tp (s + j) = wCh 0 j) 32 0 _ _ (Nat.zero_le _) ⟨rfl, rfl, fun j hj => absurd hj (Nat.not_lt_zero j)⟩ ?_
      rintro i ls μ1 hi ⟨rfl, rfl, I1⟩ kk
      refine run_go 2 ?_
      refine brF (by decide) ?_
      refine run_go 4 ?_
      by_cases q : i = 4
      · subst q
        refine brT (show (Int32.ofNat 4 : Int32) ≤ nI 4 from by decide) ?_
        refine run_go 5 ?_
        exact ⟨Or.inr rfl, h1 ⟨e, e2, I1⟩⟩
      · refine brF (show ¬ (nI 4 : Int32) ≤ nI i from (by simp (disch := first | omega | (simp (disch := omega) only [nI_toInt, Int32.reduceToInt, i_sub, i_add, i_mul]; omega)) only [iNONE, i_lt, i_le, i_eq, i_in, nI_toInt, Int32.reduceToInt, i_sub, i_add, i_mul]; omega)) ?_
        have lt := xr.2.2.1 (s + i) (by omega) (by omega)
        have bt := hT.2.2 _ lt.1
        have si : μ1.1 33 0 4 + nI i = nI (s + i) := by rw [hk.2.2.1, nI_add]
        refine run_go 6 ?_
        refine brF (by rw [si]; exact (by simp (disch := first | omega | (simp (disch := omega) only [nI_toInt, Int32.reduceToInt, i_sub, i_add, i_mul]; omega)) only [iNONE, i_lt, i_le, i_eq, i_in, nI_toInt, Int32.reduceToInt, i_sub, i_add, i_mul]; omega)) ?_
        refine run_go 11 ?_
        refine And.intro (by rw [si]; exact vp_in_nI (by omega) (by decide)) ?_
        refine And.intro (by rw [i_in, nI_toInt (by omega)]; show (0 : Int) ≤ i ∧ (i : Int) < (4 : Nat); omega) ?_
        rw [si, nI_clamp (by omega), nI_clamp (by omega), bt.2, show nth 0 (nth [] strs (60 - 60)) i = nI (wCh 0 i) from (ch i (by omega)).1]
        by_cases c : tp (s + i) = wCh 0 i
        · refine brnT ((by_eq bt.1 (ch i (by omega)).2).mpr c) ?_
          refine run_go 5 ?_
          refine kk _ _ (by omega) ⟨by rw [← nI_1 i], rfl, fun j hj => ?_⟩
          by_cases q2 : j = i
          · subst q2; exact c
          · exact I1 j (by omega)
        · refine brnF (fun z => c ((by_eq bt.1 (ch i (by omega)).2).mp z)) ?_
          refine run_go 6 ?_
          refine brT rfl ?_
          refine run_go 5 ?_
          exact ⟨Or.inl rfl, h2 (fun z => c (z.2.2 i (show i < 4 by omega)))⟩
    · refine brnF (show ¬ μ.1 33 0 5 - μ.1 33 0 4 = nI 4 from by
        rw [hk.2.2.2, hk.2.2.1, nI_sub (by omega)]
        intro z
        exact e2 ((nI_eq (by omega) (by omega)).mp z)) ?_
      exact no (fun z => e2 z.2.1)
  · refine brnF (by rw [hk.2.1]; exact (by simp (disch := first | omega | (simp (disch := omega) only [nI_toInt, Int32.reduceToInt, i_sub, i_add, i_mul]; omega)) only [iNONE, i_lt, i_le, i_eq, i_in, nI_toInt, Int32.reduceToInt, i_sub, i_add, i_mul]; omega)) ?_
    exact no (fun z => e z.1)
theorem c4_isWord_1 (hT : tpC μ tl tp) (hk : tkC μ tl tp s) (h1 : wdP tl tp s 1 → Q 1 0 (0, 0) μ) (h2 : ¬ wdP tl tp s 1 → Q 0 0 (0, 0) μ) : Call (d + 1) n4_isWord [sR 33 0, sR 61 0] μ Q := by
  have ht := hT.1
  have hs := hk.1
  have xe := xE_le (tp := tp) hs
  have xk : xK tl tp s ≤ 5 := by
    have := xC_le (tl := tl) (tp := tp) (s := s)
    unfold xK
    split <;> omega
  have ch : ∀ j, j < 5 → nth 0 (nth [] strs 1) j = nI (wCh 1 j) ∧ wCh 1 j < 128 := by decide
  have no : ¬ wdP tl tp s 1 → Run k4_isWord (Call d) Q 28 [some (sR 33 0), some (sR 61 0)] [] μ := by
    intro z
    refine run_go 6 ?_
    refine brT rfl ?_
    refine run_go 5 ?_
    exact ⟨Or.inl rfl, h2 z⟩
  refine call_go (cd := k4_isWord) 4 rfl rfl ?_
  by_cases e : xK tl tp s = 1
  · refine brnT (by rw [hk.2.1, e]; rfl) ?_
    have k1 := xK_1 e
    have xr := x_run (Or.inl k1 : xC tl tp s = 1 ∨ xC tl tp s = 2)
    refine run_go 8 ?_
    by_cases e2 : xE tl tp s - s = 5
    · refine brnT (show μ.1 33 0 5 - μ.1 33 0 4 = nI 5 from by rw [hk.2.2.2, hk.2.2.1, nI_sub (by omega), e2]) ?_
      refine run_go 5 ?_
      refine loopC (cd := k4_isWord) (d := d) (Q := Q) 5 (fun i ls μ' => ls = [some (sR 33 0), some (sR 61 0), some (sI 1), some (sI (nI i))] ∧ μ' = μ ∧ ∀ j, j < i → tp (s + j) = wCh 1 j) 32 0 _ _ (Nat.zero_le _) ⟨rfl, rfl, fun j hj => absurd hj (Nat.not_lt_zero j)⟩ ?_
      rintro i ls μ1 hi ⟨rfl, rfl, I1⟩ kk
      refine run_go 2 ?_
      refine brF (by decide) ?_
      refine run_go 4 ?_
      by_cases q : i = 5
      · subst q
        refine brT (show (Int32.ofNat 5 : Int32) ≤ nI 5 from by decide) ?_
        refine run_go 5 ?_
        exact ⟨Or.inr rfl, h1 ⟨e, e2, I1⟩⟩
      · refine brF (show ¬ (nI 5 : Int32) ≤ nI i from (by simp (disch := first | omega | (simp (disch := omega) only [nI_toInt, Int32.reduceToInt, i_sub, i_add, i_mul]; omega)) only [iNONE, i_lt, i_le, i_eq, i_in, nI_toInt, Int32.reduceToInt, i_sub, i_add, i_mul]; omega)) ?_
        have lt := xr.2.2.1 (s + i) (by omega) (by omega)
        have bt := hT.2.2 _ lt.1
        have si : μ1.1 33 0 4 + nI i = nI (s + i) := by rw [hk.2.2.1, nI_add]
        refine run_go 6 ?_
        refine brF (by rw [si]; exact (by simp (disch := first | omega | (simp (disch := omega) only [nI_toInt, Int32.reduceToInt, i_sub, i_add, i_mul]; omega)) only [iNONE, i_lt, i_le, i_eq, i_in, nI_toInt, Int32.reduceToInt, i_sub, i_add, i_mul]; omega)) ?_
        refine run_go 11 ?_
        refine And.intro (by rw [si]; exact vp_in_nI (by omega) (by decide)) ?_
        refine And.intro (by rw [i_in, nI_toInt (by omega)]; show (0 : Int) ≤ i ∧ (i : Int) < (5 : Nat); omega) ?_
        rw [si, nI_clamp (by omega), nI_clamp (by omega), bt.2, show nth 0 (nth [] strs (61 - 60)) i = nI (wCh 1 i) from (ch i (by omega)).1]
        by_cases c : tp (s + i) = wCh 1 i
        · refine brnT ((by_eq bt.1 (ch i (by omega)).2).mpr c) ?_
          refine run_go 5 ?_
          refine kk _ _ (by omega) ⟨by rw [← nI_1 i], rfl, fun j hj => ?_⟩
          by_cases q2 : j = i
          · subst q2; exact c
          · exact I1 j (by omega)
        · refine brnF (fun z => c ((by_eq bt.1 (ch i (by omega)).2).mp z)) ?_
          refine run_go 6 ?_
          refine brT rfl ?_
          refine run_go 5 ?_
          exact ⟨Or.inl rfl, h2 (fun z => c (z.2.2 i (show i < 5 by omega)))⟩
    · refine brnF (show ¬ μ.1 33 0 5 - μ.1 33 0 4 = nI 5 from by
        rw [hk.2.2.2, hk.2.2.1, nI_sub (by omega)]
        intro z
        exact e2 ((nI_eq (by omega) (by omega)).mp z)) ?_
      exact no (fun z => e2 z.2.1)
  · refine brnF (by rw [hk.2.1]; exact (by simp (disch := first | omega | (simp (disch := omega) only [nI_toInt, Int32.reduceToInt, i_sub, i_add, i_mul]; omega)) only [iNONE, i_lt, i_le, i_eq, i_in, nI_toInt, Int32.reduceToInt, i_sub, i_add, i_mul]; omega)) ?_
    exact no (fun z => e z.1)
theorem c4_isWord_2 (hT : tpC μ tl tp) (hk : tkC μ tl tp s) (h1 : wdP tl tp s 2 → Q 1 0 (0, 0) μ) (h2 : ¬ wdP tl tp s 2 → Q 0 0 (0, 0) μ) : Call (d + 1) n4_isWord [sR 33 0, sR 62 0] μ Q := by
  have ht := hT.1
  have hs := hk.1
  have xe := xE_le (tp := tp) hs
  have xk : xK tl tp s ≤ 5 := by
    have := xC_le (tl := tl) (tp := tp) (s := s)
    unfold xK
    split <;> omega
  have ch : ∀ j, j < 3 → nth 0 (nth [] strs 2) j = nI (wCh 2 j) ∧ wCh 2 j < 128 := by decide
  have no : ¬ wdP tl tp s 2 → Run k4_isWord (Call d) Q 28 [some (sR 33 0), some (sR 62 0)] [] μ := by
    intro z
    refine run_go 6 ?_
    refine brT rfl ?_
    refine run_go 5 ?_
    exact ⟨Or.inl rfl, h2 z⟩
  refine call_go (cd := k4_isWord) 4 rfl rfl ?_
  by_cases e : xK tl tp s = 1
  · refine brnT (by rw [hk.2.1, e]; rfl) ?_
    have k1 := xK_1 e
    have xr := x_run (Or.inl k1 : xC tl tp s = 1 ∨ xC tl tp s = 2)
    refine run_go 8 ?_
    by_cases e2 : xE tl tp s - s = 3
    · refine brnT (show μ.1 33 0 5 - μ.1 33 0 4 = nI 3 from by rw [hk.2.2.2, hk.2.2.1, nI_sub (by omega), e2]) ?_
      refine run_go 5 ?_
      refine loopC (cd := k4_isWord) (d := d) (Q := Q) 3 (fun i ls μ' => ls = [some (sR 33 0), some (sR 62 0), some (sI 1), some (sI (nI i))] ∧ μ' = μ ∧ ∀ j, j < i → tp (s + j) = wCh 2 j) 32 0 _ _ (Nat.zero_le _) ⟨rfl, rfl, fun j hj => absurd hj (Nat.not_lt_zero j)⟩ ?_
      rintro i ls μ1 hi ⟨rfl, rfl, I1⟩ kk
      refine run_go 2 ?_
      refine brF (by decide) ?_
      refine run_go 4 ?_
      by_cases q : i = 3
      · subst q
        refine brT (show (Int32.ofNat 3 : Int32) ≤ nI 3 from by decide) ?_
        refine run_go 5 ?_
        exact ⟨Or.inr rfl, h1 ⟨e, e2, I1⟩⟩
      · refine brF (show ¬ (nI 3 : Int32) ≤ nI i from (by simp (disch := first | omega | (simp (disch := omega) only [nI_toInt, Int32.reduceToInt, i_sub, i_add, i_mul]; omega)) only [iNONE, i_lt, i_le, i_eq, i_in, nI_toInt, Int32.reduceToInt, i_sub, i_add, i_mul]; omega)) ?_
        have lt := xr.2.2.1 (s + i) (by omega) (by omega)
        have bt := hT.2.2 _ lt.1
        have si : μ1.1 33 0 4 + nI i = nI (s + i) := by rw [hk.2.2.1, nI_add]
        refine run_go 6 ?_
        refine brF (by rw [si]; exact (by simp (disch := first | omega | (simp (disch := omega) only [nI_toInt, Int32.reduceToInt, i_sub, i_add, i_mul]; omega)) only [iNONE, i_lt, i_le, i_eq, i_in, nI_toInt, Int32.reduceToInt, i_sub, i_add, i_mul]; omega)) ?_
        refine run_go 11 ?_
        refine And.intro (by rw [si]; exact vp_in_nI (by omega) (by decide)) ?_
        refine And.intro (by rw [i_in, nI_toInt (by omega)]; show (0 : Int) ≤ i ∧ (i : Int) < (3 : Nat); omega) ?_
        rw [si, nI_clamp (by omega), nI_clamp (by omega), bt.2, show nth 0 (nth [] strs (62 - 60)) i = nI (wCh 2 i) from (ch i (by omega)).1]
        by_cases c : tp (s + i) = wCh 2 i
        · refine brnT ((by_eq bt.1 (ch i (by omega)).2).mpr c) ?_
          refine run_go 5 ?_
          refine kk _ _ (by omega) ⟨by rw [← nI_1 i], rfl, fun j hj => ?_⟩
          by_cases q2 : j = i
          · subst q2; exact c
          · exact I1 j (by omega)
        · refine brnF (fun z => c ((by_eq bt.1 (ch i (by omega)).2).mp z)) ?_
          refine run_go 6 ?_
          refine brT rfl ?_
          refine run_go 5 ?_
          exact ⟨Or.inl rfl, h2 (fun z => c (z.2.2 i (show i < 3 by omega)))⟩
    · refine brnF (show ¬ μ.1 33 0 5 - μ.1 33 0 4 = nI 3 from by
        rw [hk.2.2.2, hk.2.2.1, nI_sub (by omega)]
        intro z
        exact e2 ((nI_eq (by omega) (by omega)).mp z)) ?_
      exact no (fun z => e2 z.2.1)
  · refine brnF (by rw [hk.2.1]; exact (by simp (disch := first | omega | (simp (disch := omega) only [nI_toInt, Int32.reduceToInt, i_sub, i_add, i_mul]; omega)) only [iNONE, i_lt, i_le, i_eq, i_in, nI_toInt, Int32.reduceToInt, i_sub, i_add, i_mul]; omega)) ?_
    exact no (fun z => e z.1)
theorem c4_isWord_3 (hT : tpC μ tl tp) (hk : tkC μ tl tp s) (h1 : wdP tl tp s 3 → Q 1 0 (0, 0) μ) (h2 : ¬ wdP tl tp s 3 → Q 0 0 (0, 0) μ) : Call (d + 1) n4_isWord [sR 33 0, sR 63 0] μ Q := by
  have ht := hT.1
  have hs := hk.1
  have xe := xE_le (tp := tp) hs
  have xk : xK tl tp s ≤ 5 := by
    have := xC_le (tl := tl) (tp := tp) (s := s)
    unfold xK
    split <;> omega
  have ch : ∀ j, j < 5 → nth 0 (nth [] strs 3) j = nI (wCh 3 j) ∧ wCh 3 j < 128 := by decide
  have no : ¬ wdP tl tp s 3 → Run k4_isWord (Call d) Q 28 [some (sR 33 0), some (sR 63 0)] [] μ := by
    intro z
    refine run_go 6 ?_
    refine brT rfl ?_
    refine run_go 5 ?_
    exact ⟨Or.inl rfl, h2 z⟩
  refine call_go (cd := k4_isWord) 4 rfl rfl ?_
  by_cases e : xK tl tp s = 1
  · refine brnT (by rw [hk.2.1, e]; rfl) ?_
    have k1 := xK_1 e
    have xr := x_run (Or.inl k1 : xC tl tp s = 1 ∨ xC tl tp s = 2)
    refine run_go 8 ?_
    by_cases e2 : xE tl tp s - s = 5
    · refine brnT (show μ.1 33 0 5 - μ.1 33 0 4 = nI 5 from by rw [hk.2.2.2, hk.2.2.1, nI_sub (by omega), e2]) ?_
      refine run_go 5 ?_
      refine loopC (cd := k4_isWord) (d := d) (Q := Q) 5 (fun i ls μ' => ls = [some (sR 33 0), some (sR 63 0), some (sI 1), some (sI (nI i))] ∧ μ' = μ ∧ ∀ j, j < i → tp (s + j) = wCh 3 j) 32 0 _ _ (Nat.zero_le _) ⟨rfl, rfl, fun j hj => absurd hj (Nat.not_lt_zero j)⟩ ?_
      rintro i ls μ1 hi ⟨rfl, rfl, I1⟩ kk
      refine run_go 2 ?_
      refine brF (by decide) ?_
      refine run_go 4 ?_
      by_cases q : i = 5
      · subst q
        refine brT (show (Int32.ofNat 5 : Int32) ≤ nI 5 from by decide) ?_
        refine run_go 5 ?_
        exact ⟨Or.inr rfl, h1 ⟨e, e2, I1⟩⟩
      · refine brF (show ¬ (nI 5 : Int32) ≤ nI i from (by simp (disch := first | omega | (simp (disch := omega) only [nI_toInt, Int32.reduceToInt, i_sub, i_add, i_mul]; omega)) only [iNONE, i_lt, i_le, i_eq, i_in, nI_toInt, Int32.reduceToInt, i_sub, i_add, i_mul]; omega)) ?_
        have lt := xr.2.2.1 (s + i) (by omega) (by omega)
        have bt := hT.2.2 _ lt.1
        have si : μ1.1 33 0 4 + nI i = nI (s + i) := by rw [hk.2.2.1, nI_add]
        refine run_go 6 ?_
        refine brF (by rw [si]; exact (by simp (disch := first | omega | (simp (disch := omega) only [nI_toInt, Int32.reduceToInt, i_sub, i_add, i_mul]; omega)) only [iNONE, i_lt, i_le, i_eq, i_in, nI_toInt, Int32.reduceToInt, i_sub, i_add, i_mul]; omega)) ?_
        refine run_go 11 ?_
        refine And.intro (by rw [si]; exact vp_in_nI (by omega) (by decide)) ?_
        refine And.intro (by rw [i_in, nI_toInt (by omega)]; show (0 : Int) ≤ i ∧ (i : Int) < (5 : Nat); omega) ?_
        rw [si, nI_clamp (by omega), nI_clamp (by omega), bt.2, show nth 0 (nth [] strs (63 - 60)) i = nI (wCh 3 i) from (ch i (by omega)).1]
        by_cases c : tp (s + i) = wCh 3 i
        · refine brnT ((by_eq bt.1 (ch i (by omega)).2).mpr c) ?_
          refine run_go 5 ?_
          refine kk _ _ (by omega) ⟨by rw [← nI_1 i], rfl, fun j hj => ?_⟩
          by_cases q2 : j = i
          · subst q2; exact c
          · exact I1 j (by omega)
        · refine brnF (fun z => c ((by_eq bt.1 (ch i (by omega)).2).mp z)) ?_
          refine run_go 6 ?_
          refine brT rfl ?_
          refine run_go 5 ?_
          exact ⟨Or.inl rfl, h2 (fun z => c (z.2.2 i (show i < 5 by omega)))⟩
    · refine brnF (show ¬ μ.1 33 0 5 - μ.1 33 0 4 = nI 5 from by
        rw [hk.2.2.2, hk.2.2.1, nI_sub (by omega)]
        intro z
        exact e2 ((nI_eq (by omega) (by omega)).mp z)) ?_
      exact no (fun z => e2 z.2.1)
  · refine brnF (by rw [hk.2.1]; exact (by simp (disch := first | omega | (simp (disch := omega) only [nI_toInt, Int32.reduceToInt, i_sub, i_add, i_mul]; omega)) only [iNONE, i_lt, i_le, i_eq, i_in, nI_toInt, Int32.reduceToInt, i_sub, i_add, i_mul]; omega)) ?_
    exact no (fun z => e z.1)
theorem c4_isWord_4 (hT : tpC μ tl tp) (hk : tkC μ tl tp s) (h1 : wdP tl tp s 4 → Q 1 0 (0, 0) μ) (h2 : ¬ wdP tl tp s 4 → Q 0 0 (0, 0) μ) : Call (d + 1) n4_isWord [sR 33 0, sR 64 0] μ Q := by
  have ht := hT.1
  have hs := hk.1
  have xe := xE_le (tp := tp) hs
  have xk : xK tl tp s ≤ 5 := by
    have := xC_le (tl := tl) (tp := tp) (s := s)
    unfold xK
    split <;> omega
  have ch : ∀ j, j < 3 → nth 0 (nth [] strs 4) j = nI (wCh 4 j) ∧ wCh 4 j < 128 := by decide
  have no : ¬ wdP tl tp s 4 → Run k4_isWord (Call d) Q 28 [some (sR 33 0), some (sR 64 0)] [] μ := by
    intro z
    refine run_go 6 ?_
    refine brT rfl ?_
    refine run_go 5 ?_
    exact ⟨Or.inl rfl, h2 z⟩
  refine call_go (cd := k4_isWord) 4 rfl rfl ?_
  by_cases e : xK tl tp s = 1
  · refine brnT (by rw [hk.2.1, e]; rfl) ?_
    have k1 := xK_1 e
    have xr := x_run (Or.inl k1 : xC tl tp s = 1 ∨ xC tl tp s = 2)
    refine run_go 8 ?_
    by_cases e2 : xE tl tp s - s = 3
    · refine brnT (show μ.1 33 0 5 - μ.1 33 0 4 = nI 3 from by rw [hk.2.2.2, hk.2.2.1, nI_sub (by omega), e2]) ?_
      refine run_go 5 ?_
      refine loopC (cd := k4_isWord) (d := d) (Q := Q) 3 (fun i ls μ' => ls = [some (sR 33 0), some (sR 64 0), some (sI 1), some (sI (nI i))] ∧ μ' = μ ∧ ∀ j, j < i → tp (s + j) = wCh 4 j) 32 0 _ _ (Nat.zero_le _) ⟨rfl, rfl, fun j hj => absurd hj (Nat.not_lt_zero j)⟩ ?_
      rintro i ls μ1 hi ⟨rfl, rfl, I1⟩ kk
      refine run_go 2 ?_
      refine brF (by decide) ?_
      refine run_go 4 ?_
      by_cases q : i = 3
      · subst q
        refine brT (show (Int32.ofNat 3 : Int32) ≤ nI 3 from by decide) ?_
        refine run_go 5 ?_
        exact ⟨Or.inr rfl, h1 ⟨e, e2, I1⟩⟩
      · refine brF (show ¬ (nI 3 : Int32) ≤ nI i from (by simp (disch := first | omega | (simp (disch := omega) only [nI_toInt, Int32.reduceToInt, i_sub, i_add, i_mul]; omega)) only [iNONE, i_lt, i_le, i_eq, i_in, nI_toInt, Int32.reduceToInt, i_sub, i_add, i_mul]; omega)) ?_
        have lt := xr.2.2.1 (s + i) (by omega) (by omega)
        have bt := hT.2.2 _ lt.1
        have si : μ1.1 33 0 4 + nI i = nI (s + i) := by rw [hk.2.2.1, nI_add]
        refine run_go 6 ?_
        refine brF (by rw [si]; exact (by simp (disch := first | omega | (simp (disch := omega) only [nI_toInt, Int32.reduceToInt, i_sub, i_add, i_mul]; omega)) only [iNONE, i_lt, i_le, i_eq, i_in, nI_toInt, Int32.reduceToInt, i_sub, i_add, i_mul]; omega)) ?_
        refine run_go 11 ?_
        refine And.intro (by rw [si]; exact vp_in_nI (by omega) (by decide)) ?_
        refine And.intro (by rw [i_in, nI_toInt (by omega)]; show (0 : Int) ≤ i ∧ (i : Int) < (3 : Nat); omega) ?_
        rw [si, nI_clamp (by omega), nI_clamp (by omega), bt.2, show nth 0 (nth [] strs (64 - 60)) i = nI (wCh 4 i) from (ch i (by omega)).1]
        by_cases c : tp (s + i) = wCh 4 i
        · refine brnT ((by_eq bt.1 (ch i (by omega)).2).mpr c) ?_
          refine run_go 5 ?_
          refine kk _ _ (by omega) ⟨by rw [← nI_1 i], rfl, fun j hj => ?_⟩
          by_cases q2 : j = i
          · subst q2; exact c
          · exact I1 j (by omega)
        · refine brnF (fun z => c ((by_eq bt.1 (ch i (by omega)).2).mp z)) ?_
          refine run_go 6 ?_
          refine brT rfl ?_
          refine run_go 5 ?_
          exact ⟨Or.inl rfl, h2 (fun z => c (z.2.2 i (show i < 3 by omega)))⟩
    · refine brnF (show ¬ μ.1 33 0 5 - μ.1 33 0 4 = nI 3 from by
        rw [hk.2.2.2, hk.2.2.1, nI_sub (by omega)]
        intro z
        exact e2 ((nI_eq (by omega) (by omega)).mp z)) ?_
      exact no (fun z => e2 z.2.1)
  · refine brnF (by rw [hk.2.1]; exact (by simp (disch := first | omega | (simp (disch := omega) only [nI_toInt, Int32.reduceToInt, i_sub, i_add, i_mul]; omega)) only [iNONE, i_lt, i_le, i_eq, i_in, nI_toInt, Int32.reduceToInt, i_sub, i_add, i_mul]; omega)) ?_
    exact no (fun z => e z.1)
theorem c4_isWord_5 (hT : tpC μ tl tp) (hk : tkC μ tl tp s) (h1 : wdP tl tp s 5 → Q 1 0 (0, 0) μ) (h2 : ¬ wdP tl tp s 5 → Q 0 0 (0, 0) μ) : Call (d + 1) n4_isWord [sR 33 0, sR 65 0] μ Q := by
  have ht := hT.1
  have hs := hk.1
  have xe := xE_le (tp := tp) hs
  have xk : xK tl tp s ≤ 5 := by
    have := xC_le (tl := tl) (tp := tp) (s := s)
    unfold xK
    split <;> omega
  have ch : ∀ j, j < 3 → nth 0 (nth [] strs 5) j = nI (wCh 5 j) ∧ wCh 5 j < 128 := by decide
  have no : ¬ wdP tl tp s 5 → Run k4_isWord (Call d) Q 28 [some (sR 33 0), some (sR 65 0)] [] μ := by
    intro z
    refine run_go 6 ?_
    refine brT rfl ?_
    refine run_go 5 ?_
    exact ⟨Or.inl rfl, h2 z⟩
  refine call_go (cd := k4_isWord) 4 rfl rfl ?_
  by_cases e : xK tl tp s = 1
  · refine brnT (by rw [hk.2.1, e]; rfl) ?_
    have k1 := xK_1 e
    have xr := x_run (Or.inl k1 : xC tl tp s = 1 ∨ xC tl tp s = 2)
    refine run_go 8 ?_
    by_cases e2 : xE tl tp s - s = 3
    · refine brnT (show μ.1 33 0 5 - μ.1 33 0 4 = nI 3 from by rw [hk.2.2.2, hk.2.2.1, nI_sub (by omega), e2]) ?_
      refine run_go 5 ?_
      refine loopC (cd := k4_isWord) (d := d) (Q := Q) 3 (fun i ls μ' => ls = [some (sR 33 0), some (sR 65 0), some (sI 1), some (sI (nI i))] ∧ μ' = μ ∧ ∀ j, j < i → tp (s + j) = wCh 5 j) 32 0 _ _ (Nat.zero_le _) ⟨rfl, rfl, fun j hj => absurd hj (Nat.not_lt_zero j)⟩ ?_
      rintro i ls μ1 hi ⟨rfl, rfl, I1⟩ kk
      refine run_go 2 ?_
      refine brF (by decide) ?_
      refine run_go 4 ?_
      by_cases q : i = 3
      · subst q
        refine brT (show (Int32.ofNat 3 : Int32) ≤ nI 3 from by decide) ?_
        refine run_go 5 ?_
        exact ⟨Or.inr rfl, h1 ⟨e, e2, I1⟩⟩
      · refine brF (show ¬ (nI 3 : Int32) ≤ nI i from (by simp (disch := first | omega | (simp (disch := omega) only [nI_toInt, Int32.reduceToInt, i_sub, i_add, i_mul]; omega)) only [iNONE, i_lt, i_le, i_eq, i_in, nI_toInt, Int32.reduceToInt, i_sub, i_add, i_mul]; omega)) ?_
        have lt := xr.2.2.1 (s + i) (by omega) (by omega)
        have bt := hT.2.2 _ lt.1
        have si : μ1.1 33 0 4 + nI i = nI (s + i) := by rw [hk.2.2.1, nI_add]
        refine run_go 6 ?_
        refine brF (by rw [si]; exact (by simp (disch := first | omega | (simp (disch := omega) only [nI_toInt, Int32.reduceToInt, i_sub, i_add, i_mul]; omega)) only [iNONE, i_lt, i_le, i_eq, i_in, nI_toInt, Int32.reduceToInt, i_sub, i_add, i_mul]; omega)) ?_
        refine run_go 11 ?_
        refine And.intro (by rw [si]; exact vp_in_nI (by omega) (by decide)) ?_
        refine And.intro (by rw [i_in, nI_toInt (by omega)]; show (0 : Int) ≤ i ∧ (i : Int) < (3 : Nat); omega) ?_
        rw [si, nI_clamp (by omega), nI_clamp (by omega), bt.2, show nth 0 (nth [] strs (65 - 60)) i = nI (wCh 5 i) from (ch i (by omega)).1]
        by_cases c : tp (s + i) = wCh 5 i
        · refine brnT ((by_eq bt.1 (ch i (by omega)).2).mpr c) ?_
          refine run_go 5 ?_
          refine kk _ _ (by omega) ⟨by rw [← nI_1 i], rfl, fun j hj => ?_⟩
          by_cases q2 : j = i
          · subst q2; exact c
          · exact I1 j (by omega)
        · refine brnF (fun z => c ((by_eq bt.1 (ch i (by omega)).2).mp z)) ?_
          refine run_go 6 ?_
          refine brT rfl ?_
          refine run_go 5 ?_
          exact ⟨Or.inl rfl, h2 (fun z => c (z.2.2 i (show i < 3 by omega)))⟩
    · refine brnF (show ¬ μ.1 33 0 5 - μ.1 33 0 4 = nI 3 from by
        rw [hk.2.2.2, hk.2.2.1, nI_sub (by omega)]
        intro z
        exact e2 ((nI_eq (by omega) (by omega)).mp z)) ?_
      exact no (fun z => e2 z.2.1)
  · refine brnF (by rw [hk.2.1]; exact (by simp (disch := first | omega | (simp (disch := omega) only [nI_toInt, Int32.reduceToInt, i_sub, i_add, i_mul]; omega)) only [iNONE, i_lt, i_le, i_eq, i_in, nI_toInt, Int32.reduceToInt, i_sub, i_add, i_mul]; omega)) ?_
    exact no (fun z => e z.1)
theorem c4_isWord_6 (hT : tpC μ tl tp) (hk : tkC μ tl tp s) (h1 : wdP tl tp s 6 → Q 1 0 (0, 0) μ) (h2 : ¬ wdP tl tp s 6 → Q 0 0 (0, 0) μ) : Call (d + 1) n4_isWord [sR 33 0, sR 66 0] μ Q := by
  have ht := hT.1
  have hs := hk.1
  have xe := xE_le (tp := tp) hs
  have xk : xK tl tp s ≤ 5 := by
    have := xC_le (tl := tl) (tp := tp) (s := s)
    unfold xK
    split <;> omega
  have ch : ∀ j, j < 2 → nth 0 (nth [] strs 6) j = nI (wCh 6 j) ∧ wCh 6 j < 128 := by decide
  have no : ¬ wdP tl tp s 6 → Run k4_isWord (Call d) Q 28 [some (sR 33 0), some (sR 66 0)] [] μ := by
    intro z
    refine run_go 6 ?_
    refine brT rfl ?_
    refine run_go 5 ?_
    exact ⟨Or.inl rfl, h2 z⟩
  refine call_go (cd := k4_isWord) 4 rfl rfl ?_
  by_cases e : xK tl tp s = 1
  · refine brnT (by rw [hk.2.1, e]; rfl) ?_
    have k1 := xK_1 e
    have xr := x_run (Or.inl k1 : xC tl tp s = 1 ∨ xC tl tp s = 2)
    refine run_go 8 ?_
    by_cases e2 : xE tl tp s - s = 2
    · refine brnT (show μ.1 33 0 5 - μ.1 33 0 4 = nI 2 from by rw [hk.2.2.2, hk.2.2.1, nI_sub (by omega), e2]) ?_
      refine run_go 5 ?_
      refine loopC (cd := k4_isWord) (d := d) (Q := Q) 2 (fun i ls μ' => ls = [some (sR 33 0), some (sR 66 0), some (sI 1), some (sI (nI i))] ∧ μ' = μ ∧ ∀ j, j < i → tp (s + j) = wCh 6 j) 32 0 _ _ (Nat.zero_le _) ⟨rfl, rfl, fun j hj => absurd hj (Nat.not_lt_zero j)⟩ ?_
      rintro i ls μ1 hi ⟨rfl, rfl, I1⟩ kk
      refine run_go 2 ?_
      refine brF (by decide) ?_
      refine run_go 4 ?_
      by_cases q : i = 2
      · subst q
        refine brT (show (Int32.ofNat 2 : Int32) ≤ nI 2 from by decide) ?_
        refine run_go 5 ?_
        exact ⟨Or.inr rfl, h1 ⟨e, e2, I1⟩⟩
      · refine brF (show ¬ (nI 2 : Int32) ≤ nI i from (by simp (disch := first | omega | (simp (disch := omega) only [nI_toInt, Int32.reduceToInt, i_sub, i_add, i_mul]; omega)) only [iNONE, i_lt, i_le, i_eq, i_in, nI_toInt, Int32.reduceToInt, i_sub, i_add, i_mul]; omega)) ?_
        have lt := xr.2.2.1 (s + i) (by omega) (by omega)
        have bt := hT.2.2 _ lt.1
        have si : μ1.1 33 0 4 + nI i = nI (s + i) := by rw [hk.2.2.1, nI_add]
        refine run_go 6 ?_
        refine brF (by rw [si]; exact (by simp (disch := first | omega | (simp (disch := omega) only [nI_toInt, Int32.reduceToInt, i_sub, i_add, i_mul]; omega)) only [iNONE, i_lt, i_le, i_eq, i_in, nI_toInt, Int32.reduceToInt, i_sub, i_add, i_mul]; omega)) ?_
        refine run_go 11 ?_
        refine And.intro (by rw [si]; exact vp_in_nI (by omega) (by decide)) ?_
        refine And.intro (by rw [i_in, nI_toInt (by omega)]; show (0 : Int) ≤ i ∧ (i : Int) < (2 : Nat); omega) ?_
        rw [si, nI_clamp (by omega), nI_clamp (by omega), bt.2, show nth 0 (nth [] strs (66 - 60)) i = nI (wCh 6 i) from (ch i (by omega)).1]
        by_cases c : tp (s + i) = wCh 6 i
        · refine brnT ((by_eq bt.1 (ch i (by omega)).2).mpr c) ?_
          refine run_go 5 ?_
          refine kk _ _ (by omega) ⟨by rw [← nI_1 i], rfl, fun j hj => ?_⟩
          by_cases q2 : j = i
          · subst q2; exact c
          · exact I1 j (by omega)
        · refine brnF (fun z => c ((by_eq bt.1 (ch i (by omega)).2).mp z)) ?_
          refine run_go 6 ?_
          refine brT rfl ?_
          refine run_go 5 ?_
          exact ⟨Or.inl rfl, h2 (fun z => c (z.2.2 i (show i < 2 by omega)))⟩
    · refine brnF (show ¬ μ.1 33 0 5 - μ.1 33 0 4 = nI 2 from by
        rw [hk.2.2.2, hk.2.2.1, nI_sub (by omega)]
        intro z
        exact e2 ((nI_eq (by omega) (by omega)).mp z)) ?_
      exact no (fun z => e2 z.2.1)
  · refine brnF (by rw [hk.2.1]; exact (by simp (disch := first | omega | (simp (disch := omega) only [nI_toInt, Int32.reduceToInt, i_sub, i_add, i_mul]; omega)) only [iNONE, i_lt, i_le, i_eq, i_in, nI_toInt, Int32.reduceToInt, i_sub, i_add, i_mul]; omega)) ?_
    exact no (fun z => e z.1)
theorem c4_isWord_7 (hT : tpC μ tl tp) (hk : tkC μ tl tp s) (h1 : wdP tl tp s 7 → Q 1 0 (0, 0) μ) (h2 : ¬ wdP tl tp s 7 → Q 0 0 (0, 0) μ) : Call (d + 1) n4_isWord [sR 33 0, sR 67 0] μ Q := by
  have ht := hT.1
  have hs := hk.1
  have xe := xE_le (tp := tp) hs
  have xk : xK tl tp s ≤ 5 := by
    have := xC_le (tl := tl) (tp := tp) (s := s)
    unfold xK
    split <;> omega
  have ch : ∀ j, j < 2 → nth 0 (nth [] strs 7) j = nI (wCh 7 j) ∧ wCh 7 j < 128 := by decide
  have no : ¬ wdP tl tp s 7 → Run k4_isWord (Call d) Q 28 [some (sR 33 0), some (sR 67 0)] [] μ := by
    intro z
    refine run_go 6 ?_
    refine brT rfl ?_
    refine run_go 5 ?_
    exact ⟨Or.inl rfl, h2 z⟩
  refine call_go (cd := k4_isWord) 4 rfl rfl ?_
  by_cases e : xK tl tp s = 1
  · refine brnT (by rw [hk.2.1, e]; rfl) ?_
    have k1 := xK_1 e
    have xr := x_run (Or.inl k1 : xC tl tp s = 1 ∨ xC tl tp s = 2)
    refine run_go 8 ?_
    by_cases e2 : xE tl tp s - s = 2
    · refine brnT (show μ.1 33 0 5 - μ.1 33 0 4 = nI 2 from by rw [hk.2.2.2, hk.2.2.1, nI_sub (by omega), e2]) ?_
      refine run_go 5 ?_
      refine loopC (cd := k4_isWord) (d := d) (Q := Q) 2 (fun i ls μ' => ls = [some (sR 33 0), some (sR 67 0), some (sI 1), some (sI (nI i))] ∧ μ' = μ ∧ ∀ j, j < i → tp (s + j) = wCh 7 j) 32 0 _ _ (Nat.zero_le _) ⟨rfl, rfl, fun j hj => absurd hj (Nat.not_lt_zero j)⟩ ?_
      rintro i ls μ1 hi ⟨rfl, rfl, I1⟩ kk
      refine run_go 2 ?_
      refine brF (by decide) ?_
      refine run_go 4 ?_
      by_cases q : i = 2
      · subst q
        refine brT (show (Int32.ofNat 2 : Int32) ≤ nI 2 from by decide) ?_
        refine run_go 5 ?_
        exact ⟨Or.inr rfl, h1 ⟨e, e2, I1⟩⟩
      · refine brF (show ¬ (nI 2 : Int32) ≤ nI i from (by simp (disch := first | omega | (simp (disch := omega) only [nI_toInt, Int32.reduceToInt, i_sub, i_add, i_mul]; omega)) only [iNONE, i_lt, i_le, i_eq, i_in, nI_toInt, Int32.reduceToInt, i_sub, i_add, i_mul]; omega)) ?_
        have lt := xr.2.2.1 (s + i) (by omega) (by omega)
        have bt := hT.2.2 _ lt.1
        have si : μ1.1 33 0 4 + nI i = nI (s + i) := by rw [hk.2.2.1, nI_add]
        refine run_go 6 ?_
        refine brF (by rw [si]; exact (by simp (disch := first | omega | (simp (disch := omega) only [nI_toInt, Int32.reduceToInt, i_sub, i_add, i_mul]; omega)) only [iNONE, i_lt, i_le, i_eq, i_in, nI_toInt, Int32.reduceToInt, i_sub, i_add, i_mul]; omega)) ?_
        refine run_go 11 ?_
        refine And.intro (by rw [si]; exact vp_in_nI (by omega) (by decide)) ?_
        refine And.intro (by rw [i_in, nI_toInt (by omega)]; show (0 : Int) ≤ i ∧ (i : Int) < (2 : Nat); omega) ?_
        rw [si, nI_clamp (by omega), nI_clamp (by omega), bt.2, show nth 0 (nth [] strs (67 - 60)) i = nI (wCh 7 i) from (ch i (by omega)).1]
        by_cases c : tp (s + i) = wCh 7 i
        · refine brnT ((by_eq bt.1 (ch i (by omega)).2).mpr c) ?_
          refine run_go 5 ?_
          refine kk _ _ (by omega) ⟨by rw [← nI_1 i], rfl, fun j hj => ?_⟩
          by_cases q2 : j = i
          · subst q2; exact c
          · exact I1 j (by omega)
        · refine brnF (fun z => c ((by_eq bt.1 (ch i (by omega)).2).mp z)) ?_
          refine run_go 6 ?_
          refine brT rfl ?_
          refine run_go 5 ?_
          exact ⟨Or.inl rfl, h2 (fun z => c (z.2.2 i (show i < 2 by omega)))⟩
    · refine brnF (show ¬ μ.1 33 0 5 - μ.1 33 0 4 = nI 2 from by
        rw [hk.2.2.2, hk.2.2.1, nI_sub (by omega)]
        intro z
        exact e2 ((nI_eq (by omega) (by omega)).mp z)) ?_
      exact no (fun z => e2 z.2.1)
  · refine brnF (by rw [hk.2.1]; exact (by simp (disch := first | omega | (simp (disch := omega) only [nI_toInt, Int32.reduceToInt, i_sub, i_add, i_mul]; omega)) only [iNONE, i_lt, i_le, i_eq, i_in, nI_toInt, Int32.reduceToInt, i_sub, i_add, i_mul]; omega)) ?_
    exact no (fun z => e z.1)
theorem c4_isWord_8 (hT : tpC μ tl tp) (hk : tkC μ tl tp s) (h1 : wdP tl tp s 8 → Q 1 0 (0, 0) μ) (h2 : ¬ wdP tl tp s 8 → Q 0 0 (0, 0) μ) : Call (d + 1) n4_isWord [sR 33 0, sR 68 0] μ Q := by
  have ht := hT.1
  have hs := hk.1
  have xe := xE_le (tp := tp) hs
  have xk : xK tl tp s ≤ 5 := by
    have := xC_le (tl := tl) (tp := tp) (s := s)
    unfold xK
    split <;> omega
  have ch : ∀ j, j < 2 → nth 0 (nth [] strs 8) j = nI (wCh 8 j) ∧ wCh 8 j < 128 := by decide
  have no : ¬ wdP tl tp s 8 → Run k4_isWord (Call d) Q 28 [some (sR 33 0), some (sR 68 0)] [] μ := by
    intro z
    refine run_go 6 ?_
    refine brT rfl ?_
    refine run_go 5 ?_
    exact ⟨Or.inl rfl, h2 z⟩
  refine call_go (cd := k4_isWord) 4 rfl rfl ?_
  by_cases e : xK tl tp s = 1
  · refine brnT (by rw [hk.2.1, e]; rfl) ?_
    have k1 := xK_1 e
    have xr := x_run (Or.inl k1 : xC tl tp s = 1 ∨ xC tl tp s = 2)
    refine run_go 8 ?_
    by_cases e2 : xE tl tp s - s = 2
    · refine brnT (show μ.1 33 0 5 - μ.1 33 0 4 = nI 2 from by rw [hk.2.2.2, hk.2.2.1, nI_sub (by omega), e2]) ?_
      refine run_go 5 ?_
      refine loopC (cd := k4_isWord) (d := d) (Q := Q) 2 (fun i ls μ' => ls = [some (sR 33 0), some (sR 68 0), some (sI 1), some (sI (nI i))] ∧ μ' = μ ∧ ∀ j, j < i → tp (s + j) = wCh 8 j) 32 0 _ _ (Nat.zero_le _) ⟨rfl, rfl, fun j hj => absurd hj (Nat.not_lt_zero j)⟩ ?_
      rintro i ls μ1 hi ⟨rfl, rfl, I1⟩ kk
      refine run_go 2 ?_
      refine brF (by decide) ?_
      refine run_go 4 ?_
      by_cases q : i = 2
      · subst q
        refine brT (show (Int32.ofNat 2 : Int32) ≤ nI 2 from by decide) ?_
        refine run_go 5 ?_
        exact ⟨Or.inr rfl, h1 ⟨e, e2, I1⟩⟩
      · refine brF (show ¬ (nI 2 : Int32) ≤ nI i from (by simp (disch := first | omega | (simp (disch := omega) only [nI_toInt, Int32.reduceToInt, i_sub, i_add, i_mul]; omega)) only [iNONE, i_lt, i_le, i_eq, i_in, nI_toInt, Int32.reduceToInt, i_sub, i_add, i_mul]; omega)) ?_
        have lt := xr.2.2.1 (s + i) (by omega) (by omega)
        have bt := hT.2.2 _ lt.1
        have si : μ1.1 33 0 4 + nI i = nI (s + i) := by rw [hk.2.2.1, nI_add]
        refine run_go 6 ?_
        refine brF (by rw [si]; exact (by simp (disch := first | omega | (simp (disch := omega) only [nI_toInt, Int32.reduceToInt, i_sub, i_add, i_mul]; omega)) only [iNONE, i_lt, i_le, i_eq, i_in, nI_toInt, Int32.reduceToInt, i_sub, i_add, i_mul]; omega)) ?_
        refine run_go 11 ?_
        refine And.intro (by rw [si]; exact vp_in_nI (by omega) (by decide)) ?_
        refine And.intro (by rw [i_in, nI_toInt (by omega)]; show (0 : Int) ≤ i ∧ (i : Int) < (2 : Nat); omega) ?_
        rw [si, nI_clamp (by omega), nI_clamp (by omega), bt.2, show nth 0 (nth [] strs (68 - 60)) i = nI (wCh 8 i) from (ch i (by omega)).1]
        by_cases c : tp (s + i) = wCh 8 i
        · refine brnT ((by_eq bt.1 (ch i (by omega)).2).mpr c) ?_
          refine run_go 5 ?_
          refine kk _ _ (by omega) ⟨by rw [← nI_1 i], rfl, fun j hj => ?_⟩
          by_cases q2 : j = i
          · subst q2; exact c
          · exact I1 j (by omega)
        · refine brnF (fun z => c ((by_eq bt.1 (ch i (by omega)).2).mp z)) ?_
          refine run_go 6 ?_
          refine brT rfl ?_
          refine run_go 5 ?_
          exact ⟨Or.inl rfl, h2 (fun z => c (z.2.2 i (show i < 2 by omega)))⟩
    · refine brnF (show ¬ μ.1 33 0 5 - μ.1 33 0 4 = nI 2 from by
        rw [hk.2.2.2, hk.2.2.1, nI_sub (by omega)]
        intro z
        exact e2 ((nI_eq (by omega) (by omega)).mp z)) ?_
      exact no (fun z => e2 z.2.1)
  · refine brnF (by rw [hk.2.1]; exact (by simp (disch := first | omega | (simp (disch := omega) only [nI_toInt, Int32.reduceToInt, i_sub, i_add, i_mul]; omega)) only [iNONE, i_lt, i_le, i_eq, i_in, nI_toInt, Int32.reduceToInt, i_sub, i_add, i_mul]; omega)) ?_
    exact no (fun z => e z.1)
theorem c4_isWord_9 (hT : tpC μ tl tp) (hk : tkC μ tl tp s) (h1 : wdP tl tp s 9 → Q 1 0 (0, 0) μ) (h2 : ¬ wdP tl tp s 9 → Q 0 0 (0, 0) μ) : Call (d + 1) n4_isWord [sR 33 0, sR 69 0] μ Q := by
  have ht := hT.1
  have hs := hk.1
  have xe := xE_le (tp := tp) hs
  have xk : xK tl tp s ≤ 5 := by
    have := xC_le (tl := tl) (tp := tp) (s := s)
    unfold xK
    split <;> omega
  have ch : ∀ j, j < 6 → nth 0 (nth [] strs 9) j = nI (wCh 9 j) ∧ wCh 9 j < 128 := by decide
  have no : ¬ wdP tl tp s 9 → Run k4_isWord (Call d) Q 28 [some (sR 33 0), some (sR 69 0)] [] μ := by
    intro z
    refine run_go 6 ?_
    refine brT rfl ?_
    refine run_go 5 ?_
    exact ⟨Or.inl rfl, h2 z⟩
  refine call_go (cd := k4_isWord) 4 rfl rfl ?_
  by_cases e : xK tl tp s = 1
  · refine brnT (by rw [hk.2.1, e]; rfl) ?_
    have k1 := xK_1 e
    have xr := x_run (Or.inl k1 : xC tl tp s = 1 ∨ xC tl tp s = 2)
    refine run_go 8 ?_
    by_cases e2 : xE tl tp s - s = 6
    · refine brnT (show μ.1 33 0 5 - μ.1 33 0 4 = nI 6 from by rw [hk.2.2.2, hk.2.2.1, nI_sub (by omega), e2]) ?_
      refine run_go 5 ?_
      refine loopC (cd := k4_isWord) (d := d) (Q := Q) 6 (fun i ls μ' => ls = [some (sR 33 0), some (sR 69 0), some (sI 1), some (sI (nI i))] ∧ μ' = μ ∧ ∀ j, j < i → tp (s + j) = wCh 9 j) 32 0 _ _ (Nat.zero_le _) ⟨rfl, rfl, fun j hj => absurd hj (Nat.not_lt_zero j)⟩ ?_
      rintro i ls μ1 hi ⟨rfl, rfl, I1⟩ kk
      refine run_go 2 ?_
      refine brF (by decide) ?_
      refine run_go 4 ?_
      by_cases q : i = 6
      · subst q
        refine brT (show (Int32.ofNat 6 : Int32) ≤ nI 6 from by decide) ?_
        refine run_go 5 ?_
        exact ⟨Or.inr rfl, h1 ⟨e, e2, I1⟩⟩
      · refine brF (show ¬ (nI 6 : Int32) ≤ nI i from (by simp (disch := first | omega | (simp (disch := omega) only [nI_toInt, Int32.reduceToInt, i_sub, i_add, i_mul]; omega)) only [iNONE, i_lt, i_le, i_eq, i_in, nI_toInt, Int32.reduceToInt, i_sub, i_add, i_mul]; omega)) ?_
        have lt := xr.2.2.1 (s + i) (by omega) (by omega)
        have bt := hT.2.2 _ lt.1
        have si : μ1.1 33 0 4 + nI i = nI (s + i) := by rw [hk.2.2.1, nI_add]
        refine run_go 6 ?_
        refine brF (by rw [si]; exact (by simp (disch := first | omega | (simp (disch := omega) only [nI_toInt, Int32.reduceToInt, i_sub, i_add, i_mul]; omega)) only [iNONE, i_lt, i_le, i_eq, i_in, nI_toInt, Int32.reduceToInt, i_sub, i_add, i_mul]; omega)) ?_
        refine run_go 11 ?_
        refine And.intro (by rw [si]; exact vp_in_nI (by omega) (by decide)) ?_
        refine And.intro (by rw [i_in, nI_toInt (by omega)]; show (0 : Int) ≤ i ∧ (i : Int) < (6 : Nat); omega) ?_
        rw [si, nI_clamp (by omega), nI_clamp (by omega), bt.2, show nth 0 (nth [] strs (69 - 60)) i = nI (wCh 9 i) from (ch i (by omega)).1]
        by_cases c : tp (s + i) = wCh 9 i
        · refine brnT ((by_eq bt.1 (ch i (by omega)).2).mpr c) ?_
          refine run_go 5 ?_
          refine kk _ _ (by omega) ⟨by rw [← nI_1 i], rfl, fun j hj => ?_⟩
          by_cases q2 : j = i
          · subst q2; exact c
          · exact I1 j (by omega)
        · refine brnF (fun z => c ((by_eq bt.1 (ch i (by omega)).2).mp z)) ?_
          refine run_go 6 ?_
          refine brT rfl ?_
          refine run_go 5 ?_
          exact ⟨Or.inl rfl, h2 (fun z => c (z.2.2 i (show i < 6 by omega)))⟩
    · refine brnF (show ¬ μ.1 33 0 5 - μ.1 33 0 4 = nI 6 from by
        rw [hk.2.2.2, hk.2.2.1, nI_sub (by omega)]
        intro z
        exact e2 ((nI_eq (by omega) (by omega)).mp z)) ?_
      exact no (fun z => e2 z.2.1)
  · refine brnF (by rw [hk.2.1]; exact (by simp (disch := first | omega | (simp (disch := omega) only [nI_toInt, Int32.reduceToInt, i_sub, i_add, i_mul]; omega)) only [iNONE, i_lt, i_le, i_eq, i_in, nI_toInt, Int32.reduceToInt, i_sub, i_add, i_mul]; omega)) ?_
    exact no (fun z => e z.1)
end OP
