/-! one step of the small machine is a step of the machine -/
theorem dec_of {α ε : Type} {x : Except ε α} {v : α} (h : x.toOption = some v) : x = .ok v := by
  cases x with
  | error e => cases h
  | ok a => cases h; rfl
theorem ck1 {α ε : Type} [DecidableEq (Option α)] {x : Except ε α} {v : α} {nx n : Nat} (h : (decide (x.toOption = some v) && Nat.beq nx n) = true) : x = .ok v ∧ nx = n := by
  rw [Bool.and_eq_true, decide_eq_true_eq] at h
  exact ⟨dec_of h.1, Nat.eq_of_beq_eq_true h.2⟩
theorem pI_inv {st : List sv} {f : Int32 → List sv → Prop} (h : pI st f) : ∃ x r, st = sI x :: r ∧ f x r := by
  unfold pI at h; split at h
  · exact ⟨_, _, rfl, h⟩
  · exact absurd h id
theorem pII_inv {st : List sv} {f : Int32 → Int32 → List sv → Prop} (h : pII st f) : ∃ x y r, st = sI y :: sI x :: r ∧ f x y r := by
  unfold pII at h; split at h
  · exact ⟨_, _, _, rfl, h⟩
  · exact absurd h id
theorem pL_inv {st : List sv} {f : Int64 → List sv → Prop} (h : pL st f) : ∃ x r, st = sL x :: r ∧ f x r := by
  unfold pL at h; split at h
  · exact ⟨_, _, rfl, h⟩
  · exact absurd h id
theorem pLL_inv {st : List sv} {f : Int64 → Int64 → List sv → Prop} (h : pLL st f) : ∃ x y r, st = sL y :: sL x :: r ∧ f x y r := by
  unfold pLL at h; split at h
  · exact ⟨_, _, _, rfl, h⟩
  · exact absurd h id
theorem pLI_inv {st : List sv} {f : Int64 → Int32 → List sv → Prop} (h : pLI st f) : ∃ x y r, st = sI y :: sL x :: r ∧ f x y r := by
  unfold pLI at h; split at h
  · exact ⟨_, _, _, rfl, h⟩
  · exact absurd h id
theorem pR_inv {st : List sv} {f : Nat → Nat → List sv → Prop} (h : pR st f) : ∃ t i r, st = sR t i :: r ∧ f t i r := by
  unfold pR at h; split at h
  · exact ⟨_, _, _, rfl, h⟩
  · exact absurd h id
theorem pRI_inv {st : List sv} {f : Nat → Nat → Int32 → List sv → Prop} (h : pRI st f) : ∃ t i k r, st = sI k :: sR t i :: r ∧ f t i k r := by
  unfold pRI at h; split at h
  · exact ⟨_, _, _, _, rfl, h⟩
  · exact absurd h id
theorem pRII_inv {st : List sv} {f : Nat → Nat → Int32 → Int32 → List sv → Prop} (h : pRII st f) : ∃ t i k x r, st = sI x :: sI k :: sR t i :: r ∧ f t i k x r := by
  unfold pRII at h; split at h
  · exact ⟨_, _, _, _, _, rfl, h⟩
  · exact absurd h id
theorem pRIL_inv {st : List sv} {f : Nat → Nat → Int32 → Int64 → List sv → Prop} (h : pRIL st f) : ∃ t i k x r, st = sL x :: sI k :: sR t i :: r ∧ f t i k x r := by
  unfold pRIL at h; split at h
  · exact ⟨_, _, _, _, _, rfl, h⟩
  · exact absurd h id
theorem pCP_inv {st : List sv} {f : Nat → Nat → Int32 → Nat → Nat → Int32 → Int32 → List sv → Prop} (h : pCP st f) : ∃ t i sp t' i' dp n r, st = sI n :: sI dp :: sR t' i' :: sI sp :: sR t i :: r ∧ f t i sp t' i' dp n r := by
  unfold pCP at h; split at h
  · exact ⟨_, _, _, _, _, _, _, _, rfl, h⟩
  · exact absurd h id
theorem cond_inv {b : Bool} {X : Prop} (h : bif b then X else False) : b = true ∧ X := by
  cases b
  · exact absurd h id
  · exact ⟨rfl, h⟩
theorem popK_inv {k : List sv → List sv → Prop} : ∀ (n : Nat) (st acc : List sv), popK n st acc k → ∃ xs r, st = xs.reverse ++ r ∧ xs.length = n ∧ k (xs ++ acc) r
  | 0, st, acc, h => ⟨[], st, rfl, rfl, h⟩
  | n + 1, [], acc, h => absurd h id
  | n + 1, v :: r, acc, h => by
    obtain ⟨xs, r', h1, h2, h3⟩ := popK_inv n r (v :: acc) h
    exact ⟨xs ++ [v], r', by rw [List.reverse_append, h1]; rfl, by rw [List.length_append, h2]; rfl, by rw [List.append_assoc]; exact h3⟩
theorem okS_app {lw : Prop} : ∀ {a b : List sv}, okS lw (a ++ b) ↔ okS lw a ∧ okS lw b
  | [], b => ⟨fun h => ⟨trivial, h⟩, fun h => h.2⟩
  | v :: a, b => by
    show okV lw v ∧ okS lw (a ++ b) ↔ (okV lw v ∧ okS lw a) ∧ okS lw b
    rw [okS_app, and_assoc]
theorem okS_rev {lw : Prop} : ∀ {a : List sv}, okS lw a.reverse ↔ okS lw a
  | [] => Iff.rfl
  | v :: a => by
    rw [List.reverse_cons, okS_app, okS_rev]
    exact ⟨fun h => ⟨h.2.1, h.1⟩, fun h => ⟨h.2, h.1, trivial⟩⟩
theorem okS_noS {lw : Prop} : ∀ {a : List sv}, noS a = true → okS lw a → okS False a
  | [], _, _ => trivial
  | v :: a, hn, h => by
    unfold noS at hn
    rw [Bool.and_eq_true] at hn
    refine ⟨?_, okS_noS hn.2 h.2⟩
    have hv := h.1
    have hn1 := hn.1
    clear hn h
    rcases v with x | x | ⟨t, i⟩
    · trivial
    · trivial
    · rcases hv with hv | hv | hv
      · exact Or.inl hv
      · exact Or.inr (Or.inl hv)
      · obtain ⟨-, rfl, -⟩ := hv
        cases hn1
theorem okV_ob {lw : Prop} {t i : Nat} (h : okV lw (sR t i)) (ht : t < 59) : vT t i := by
  rcases h with h | h | h
  · exact h
  · omega
  · omega
theorem okV_ar {lw : Prop} {t i y n : Nat} (h : okV lw (sR t i)) (ha : nth (9, 0) ars t = (y, n)) (hy : y < 5) : vT t i := by
  rcases h with h | h | h
  · exact h
  · obtain ⟨h1, h2, -⟩ := h
    have key : (List.range 70).all (fun t => Nat.ble t 59 || decide (nth (9, 0) ars t = (9, 0))) = true := by decide +kernel
    have := List.all_eq_true.mp key t (List.mem_range.mpr h2)
    rw [Bool.or_eq_true, decide_eq_true_eq] at this
    rcases this with q | q
    · exact absurd (Nat.le_of_ble_eq_true q) (by omega)
    · rw [q] at ha
      have : y = 9 := by injection ha with a b; exact a.symm
      omega
  · obtain ⟨-, rfl, -⟩ := h
    have : y = 5 := by have e : nth (9, 0) ars 59 = (5, 0) := by decide +kernel
                       rw [e] at ha; injection ha with a b; exact a.symm
    omega
theorem i32_of {x : Int32} {k : Int} (h1 : -1000 ≤ k) (h2 : k ≤ 2000) : x = Int32.ofInt k ↔ x.toInt = k := by
  have e : (Int32.ofInt k).toInt = k := Int32.toInt_ofInt_of_le (by omega) (by omega)
  constructor
  · rintro rfl; exact e
  · intro h; exact Int32.toInt_inj.mp (by rw [e, h])
/-- a switch: what each case says -/
theorem swP_inv {x : Int32} {K : Nat → Prop} {df : Nat} : ∀ (ts : List Int) (lo : Int), -1000 ≤ lo → lo + ts.length ≤ 2000 → swP x K df lo ts → ((x.toInt < lo ∨ lo + ts.length - 1 < x.toInt) → K df) ∧ ∀ (j : Nat) (t : Int), ts[j]? = some t → x.toInt = lo + j → K t.toNat
  | [], lo, _, _, h => ⟨fun _ => h, fun j t e => by simp at e⟩
  | t :: ts, lo, h1, h2, h => by
    have hl : ((t :: ts).length : Int) = ts.length + 1 := by simp
    rw [hl] at h2
    have e := i32_of (x := x) (k := lo) h1 (by omega)
    by_cases hx : x = Int32.ofInt lo
    · refine ⟨fun z => ?_, fun j t' e1 e2 => ?_⟩
      · have := e.mp hx
        rw [hl] at z
        omega
      · have h3 := e.mp hx
        have hj : j = 0 := by omega
        subst hj
        cases e1
        exact h.1 hx
    · have h3 : ¬ x.toInt = lo := fun q => hx (e.mpr q)
      obtain ⟨g1, g2⟩ := swP_inv ts (lo + 1) (by omega) (by omega) (h.2 hx)
      refine ⟨fun z => g1 (by rw [hl] at z; omega), fun j t' e1 e2 => ?_⟩
      cases j with
      | zero => exact absurd (by simpa using e2) h3
      | succ j => exact g2 j t' (by simpa using e1) (by push_cast at e2; omega)
theorem ck_ret : (List.range 254).all (fun y => (List.range (lnOf y)).all (fun pc => match (codeOf y pc).1 with
    | .ireturn => decide (rtOf y = some .int)
    | .freturn => decide (rtOf y = some .boolean)
    | .lreturn => decide (rtOf y = some .long)
    | .areturn => Nat.beq (rkT (rtOf y)) 3
    | .return_ => decide (rtOf y = none)
    | _ => true)) = true := by decide +kernel
section SND
variable {p : Program} {l : Launch} {e : Env} {R : Room} {s : State} {m : MethodId} {args : Array Value} {below : List Frame} {meth : Method} {c : Code} {ZZ : State → Prop} {ce sl : Nat} {S : sG} {y d : Nat} {lw : Prop}
def PW (S : sG) (y : Nat) (lw : Prop) (p : Program) (l : Launch) (e : Env) (R : Room) (s : State) (m : MethodId) (args : Array Value) (below : List Frame) (meth : Method) (c : Code) (ce sl : Nat) (ZZ : State → Prop) : sP := fun pc ls st μ =>
  ∀ (H : Heap) (locs : List Loc) (A : Array Slot), wd S μ H → va_S (Aw S) s.heap H locs → hasL S A (mxOf y) ls → okL lw ls → okS lw st → W p l e R s m args below meth c H locs ce sl ZZ (F0 m pc A (st.map (mv S)))
def Cx (S : sG) (y d : Nat) (lw : Prop) (p : Program) (R : Room) (s : State) (m : MethodId) (args : Array Value) (c : Code) (ce sl : Nat) : Prop :=
  p.tables.exec = Jvm.exec ∧ c.code = btOf y ∧ c.maxLocals = mxOf y ∧ s.vm.findClass (clC (owOf y)) = some m.cls ∧ (∀ w ∈ gd, w.before args s = true) ∧ KU S s ∧ SU S s s.heap ∧ injS S ∧ (d + 5 ≤ R.frames ∧ 64 * (d + 5) ≤ R.locals) ∧ (ce ≤ R.cells ∧ sl ≤ R.slots) ∧
  (lw → va_X (gA S 59 0) (gX S 1 0).toNatClampNeg (gX S 0) s s.heap ∧ gA S 59 0 < s.heap.size ∧ ¬ Aw S (gA S 59 0) ∧ Int32.ofNat (gX S 1 0).toNatClampNeg = gX S 1 0) ∧ y < 254
def RetOk (S : sG) (y : Nat) (Q : sQ) (p : Program) (l : Launch) (e : Env) (R : Room) (s : State) (m : MethodId) (args : Array Value) (below : List Frame) (meth : Method) (c : Code) (ce sl : Nat) (ZZ : State → Prop) : Prop :=
  ∀ (H : Heap) (locs : List Loc) (A : Array Slot) (pc : Nat) (μ : sM), wd S μ H → va_S (Aw S) s.heap H locs →
    (∀ x : Int32, rtOf y = some .int → decode (btOf y) pc = .ok (.ireturn, 1) → Q x 0 (0, 0) μ → W p l e R s m args below meth c H locs ce sl ZZ (F0 m pc A [.int x])) ∧
    (∀ x : Int32, rtOf y = some .boolean → (x = 0 ∨ x = 1) → decode (btOf y) pc = .ok (.ireturn, 1) → Q x 0 (0, 0) μ → W p l e R s m args below meth c H locs ce sl ZZ (F0 m pc A [.int x])) ∧
    (∀ x : Int64, rtOf y = some .long → decode (btOf y) pc = .ok (.lreturn, 1) → Q 0 x (0, 0) μ → W p l e R s m args below meth c H locs ce sl ZZ (F0 m pc A [.long x])) ∧
    (∀ t i : Nat, rkT (rtOf y) = 3 → vT t i → decode (btOf y) pc = .ok (.areturn, 1) → Q 0 0 (t, i) μ → W p l e R s m args below meth c H locs ce sl ZZ (F0 m pc A [.ref (gA S t i)])) ∧
    (rtOf y = none → decode (btOf y) pc = .ok (.return_, 1) → Q 0 0 (0, 0) μ → W p l e R s m args below meth c H locs ce sl ZZ (F0 m pc A []))
/-- length() and charAt() of a constant -/
def StrOk (S : sG) (y : Nat) (p : Program) (l : Launch) (e : Env) (R : Room) (s : State) (m : MethodId) (args : Array Value) (below : List Frame) (meth : Method) (c : Code) (ce sl : Nat) (ZZ : State → Prop) : Prop :=
  ∀ (H : Heap) (locs : List Loc) (A : Array Slot) (pc idx j : Nat) (rest : List Value), va_S (Aw S) s.heap H locs → A.size = mxOf y → (rest.map fun v => v.category).sum ≤ 8 → j < 10 →
    ((owOf y, idx, 2) ∈ kA → decode (btOf y) pc = .ok (.invokevirtual idx, 3) → (∀ locs1, va_S (Aw S) s.heap H locs1 → W p l e R s m args below meth c H locs1 ce sl ZZ (F0 m (pc + 3) A (.int (Int32.ofNat (nth [] strs j).length) :: rest))) → W p l e R s m args below meth c H locs ce sl ZZ (F0 m pc A (.ref (gA S (60 + j) 0) :: rest))) ∧
    (∀ k : Int32, vp_in k (nth [] strs j).length → (owOf y, idx, 3) ∈ kA → decode (btOf y) pc = .ok (.invokevirtual idx, 3) → (∀ locs1, va_S (Aw S) s.heap H locs1 → W p l e R s m args below meth c H locs1 ce sl ZZ (F0 m (pc + 3) A (.int (nth 0 (nth [] strs j) k.toNatClampNeg) :: rest))) → W p l e R s m args below meth c H locs ce sl ZZ (F0 m pc A (.int k :: .ref (gA S (60 + j) 0) :: rest)))
theorem kS_rng : kS.all (fun e => Nat.blt 59 e.2.2 && Nat.blt e.2.2 70) = true := by decide +kernel
theorem kF_rng : kF.all (fun e => Nat.blt e.2.2.1 59) = true := by decide +kernel
theorem no5 (t : Nat) (ht : t < 59) (n : Nat) : nth (9, 0) ars t ≠ (5, n) := by
  intro h
  have key : (List.range 59).all (fun t => !Nat.beq (nth (9, 0) ars t).1 5) = true := by decide +kernel
  have := List.all_eq_true.mp key t (List.mem_range.mpr ht)
  rw [h] at this
  cases this
theorem no5' (t : Nat) (h1 : 59 < t) (h2 : t < 70) (n : Nat) : nth (9, 0) ars t ≠ (5, n) := by
  intro h
  have key : (List.range 70).all (fun t => Nat.beq t 59 || !Nat.beq (nth (9, 0) ars t).1 5) = true := by decide +kernel
  have := List.all_eq_true.mp key t (List.mem_range.mpr h2)
  rw [h, Bool.or_eq_true] at this
  rcases this with q | q
  · exact absurd (Nat.eq_of_beq_eq_true q) (by omega)
  · cases q
theorem ar4 (t n : Nat) (h : nth (9, 0) ars t = (4, n)) : n = 8 := by
  have key : (List.range 60).all (fun t => !Nat.beq (nth (9, 0) ars t).1 4 || Nat.beq (nth (9, 0) ars t).2 8) = true := by decide +kernel
  by_cases ht : t < 60
  · have := List.all_eq_true.mp key t (List.mem_range.mpr ht)
    rw [h, Bool.or_eq_true] at this
    rcases this with q | q
    · cases q
    · exact Nat.eq_of_beq_eq_true q
  · exfalso
    have e : ∀ (l : List (Nat × Nat)) (k : Nat), l.length ≤ k → nth (9, 0) l k = (9, 0) := by
      intro l
      induction l with
      | nil => intro k _; rfl
      | cons a l ih =>
        intro k hk
        cases k with
        | zero => simp at hk
        | succ k => exact ih k (by simpa using hk)
    rw [e ars t (by have : ars.length = 60 := by decide +kernel
                    omega)] at h
    cases h
/-- where a field leads -/
theorem fld_ok (t i a : Nat) (hv : vT t i) (ha : a < (nth [] shp t).length) : match nth none (nth [] shp t) a with
    | none => True
    | some (t', none) => vT t' i
    | some (t', some j) => vT t' j := by
  have key : (List.range 59).all (fun t => (List.range (nth [] shp t).length).all (fun a => match nth none (nth [] shp t) a with
    | none => true
    | some (t', none) => Nat.blt t' 59 && Nat.beq (cnt t') (cnt t)
    | some (t', some j) => Nat.blt t' 59 && Nat.blt j (cnt t'))) = true := by decide +kernel
  have := List.all_eq_true.mp (List.all_eq_true.mp key t (List.mem_range.mpr hv.1)) a (List.mem_range.mpr ha)
  split
  · trivial
  · rename_i t' hq
    rw [hq] at this
    simp only [Bool.and_eq_true] at this
    exact ⟨Nat.le_of_ble_eq_true this.1, by rw [Nat.eq_of_beq_eq_true this.2]; exact hv.2⟩
  · rename_i t' j hq
    rw [hq] at this
    simp only [Bool.and_eq_true] at this
    exact ⟨Nat.le_of_ble_eq_true this.1, Nat.le_of_ble_eq_true this.2⟩
set_option maxHeartbeats 8000000 in
set_option maxRecDepth 20000 in
theorem step_ok (X : Cx S y d lw p R s m args c ce sl) {C : sC} {Q : sQ} (hC : ∀ (z : Nat) (as : List sv) (μ : sM) (Q' : sQ), z < 253 → okS False as → C z as μ Q' → MetS S l d z as μ Q')
    (hret : RetOk S y Q p l e R s m args below meth c ce sl ZZ) (hstr : StrOk S y p l e R s m args below meth c ce sl ZZ) (pc : Nat) (ls : sO) (st : List sv) (μ : sM) (h : stepW (codeOf y) C Q (PW S y lw p l e R s m args below meth c ce sl ZZ) pc ls st μ) : PW S y lw p l e R s m args below meth c ce sl ZZ pc ls st μ := by
  obtain ⟨hx, hb, hml, hown, hgd, hKU, hSU, hj, hR, hcs, hlw, hy⟩ := X
  have hK := hKU.1
  rcases hce : codeOf y pc with ⟨op, nx, a, c0, c1⟩
  have hout : ¬ pc < lnOf y → op = .nop := fun hp => by
    have e1 : codeOf y pc = (.nop, 0, 0, 0, 0) := by
      show (bif Nat.blt pc (lnOf y) then _ else _) = _
      cases hq : Nat.blt pc (lnOf y) with
      | false => rfl
      | true => exact absurd (Nat.le_of_ble_eq_true hq) hp
    rw [hce] at e1
    injection e1
  have hk : chkO (owOf y) (mxOf y) pc (decode (btOf y) pc).toOption op nx a c0 c1 = true := by
    by_cases hp : pc < lnOf y
    · have hk := ck_all hy hp
      unfold chkM at hk
      rw [hce] at hk
      exact hk
    · rw [hout hp]; rfl
  have hrt0 : (match (codeOf y pc).1 with
    | .ireturn => decide (rtOf y = some .int)
    | .freturn => decide (rtOf y = some .boolean)
    | .lreturn => decide (rtOf y = some .long)
    | .areturn => Nat.beq (rkT (rtOf y)) 3
    | .return_ => decide (rtOf y = none)
    | _ => true) = true := by
    by_cases hp : pc < lnOf y
    · exact List.all_eq_true.mp (List.all_eq_true.mp ck_ret y (List.mem_range.mpr hy)) pc (List.mem_range.mpr hp)
    · rw [hce]; dsimp only; rw [hout hp]
  unfold stepW at h
  rw [hce] at h
  dsimp only at h
  cases op
  case iadd =>
    obtain ⟨hd, rfl⟩ := ck1 hk
    have hinv := pII_inv h
    clear h
    obtain ⟨x1, x2, r, rfl, h⟩ := hinv
    intro H locs A hw hS hl hol hos
    exact lv_iadd (rest := r.map (mv S)) hx hb hd (h H locs A hw hS hl hol ⟨trivial, hos.2.2⟩)
  case isub =>
    obtain ⟨hd, rfl⟩ := ck1 hk
    have hinv := pII_inv h
    clear h
    obtain ⟨x1, x2, r, rfl, h⟩ := hinv
    intro H locs A hw hS hl hol hos
    exact lv_isub (rest := r.map (mv S)) hx hb hd (h H locs A hw hS hl hol ⟨trivial, hos.2.2⟩)
  case imul =>
    obtain ⟨hd, rfl⟩ := ck1 hk
    have hinv := pII_inv h
    clear h
    obtain ⟨x1, x2, r, rfl, h⟩ := hinv
    intro H locs A hw hS hl hol hos
    exact lv_imul (rest := r.map (mv S)) hx hb hd (h H locs A hw hS hl hol ⟨trivial, hos.2.2⟩)
  case iand =>
    obtain ⟨hd, rfl⟩ := ck1 hk
    have hinv := pII_inv h
    clear h
    obtain ⟨x1, x2, r, rfl, h⟩ := hinv
    intro H locs A hw hS hl hol hos
    exact lv_iand (rest := r.map (mv S)) hx hb hd (h H locs A hw hS hl hol ⟨trivial, hos.2.2⟩)
  case ior =>
    obtain ⟨hd, rfl⟩ := ck1 hk
    have hinv := pII_inv h
    clear h
    obtain ⟨x1, x2, r, rfl, h⟩ := hinv
    intro H locs A hw hS hl hol hos
    exact lv_ior (rest := r.map (mv S)) hx hb hd (h H locs A hw hS hl hol ⟨trivial, hos.2.2⟩)
  case ishl =>
    obtain ⟨hd, rfl⟩ := ck1 hk
    have hinv := pII_inv h
    clear h
    obtain ⟨x1, x2, r, rfl, h⟩ := hinv
    intro H locs A hw hS hl hol hos
    exact lv_ishl (rest := r.map (mv S)) hx hb hd (h H locs A hw hS hl hol ⟨trivial, hos.2.2⟩)
  case ishr =>
    obtain ⟨hd, rfl⟩ := ck1 hk
    have hinv := pII_inv h
    clear h
    obtain ⟨x1, x2, r, rfl, h⟩ := hinv
    intro H locs A hw hS hl hol hos
    exact lv_ishr (rest := r.map (mv S)) hx hb hd (h H locs A hw hS hl hol ⟨trivial, hos.2.2⟩)
  case iushr =>
    obtain ⟨hd, rfl⟩ := ck1 hk
    have hinv := pII_inv h
    clear h
    obtain ⟨x1, x2, r, rfl, h⟩ := hinv
    intro H locs A hw hS hl hol hos
    exact lv_iushr (rest := r.map (mv S)) hx hb hd rfl (h H locs A hw hS hl hol ⟨trivial, hos.2.2⟩)
  case idiv =>
    obtain ⟨hd, rfl⟩ := ck1 hk
    have hinv := pII_inv h
    clear h
    obtain ⟨x1, x2, r, rfl, h0, h⟩ := hinv
    intro H locs A hw hS hl hol hos
    exact lv_idiv (rest := r.map (mv S)) hx hb hd h0 (h H locs A hw hS hl hol ⟨trivial, hos.2.2⟩)
  case irem =>
    obtain ⟨hd, rfl⟩ := ck1 hk
    have hinv := pII_inv h
    clear h
    obtain ⟨x1, x2, r, rfl, h0, h⟩ := hinv
    intro H locs A hw hS hl hol hos
    exact lv_irem (rest := r.map (mv S)) hx hb hd h0 (h H locs A hw hS hl hol ⟨trivial, hos.2.2⟩)
  case ineg =>
    obtain ⟨hd, rfl⟩ := ck1 hk
    have hinv := pI_inv h
    clear h
    obtain ⟨x1, r, rfl, h⟩ := hinv
    intro H locs A hw hS hl hol hos
    exact lv_ineg (rest := r.map (mv S)) hx hb hd (h H locs A hw hS hl hol ⟨trivial, hos.2⟩)
  case ladd =>
    obtain ⟨hd, rfl⟩ := ck1 hk
    have hinv := pLL_inv h
    clear h
    obtain ⟨x1, x2, r, rfl, h⟩ := hinv
    intro H locs A hw hS hl hol hos
    exact lv_ladd (rest := r.map (mv S)) hx hb hd (h H locs A hw hS hl hol ⟨trivial, hos.2.2⟩)
  case land =>
    obtain ⟨hd, rfl⟩ := ck1 hk
    have hinv := pLL_inv h
    clear h
    obtain ⟨x1, x2, r, rfl, h⟩ := hinv
    intro H locs A hw hS hl hol hos
    exact lv_land (rest := r.map (mv S)) hx hb hd (h H locs A hw hS hl hol ⟨trivial, hos.2.2⟩)
  case lor =>
    obtain ⟨hd, rfl⟩ := ck1 hk
    have hinv := pLL_inv h
    clear h
    obtain ⟨x1, x2, r, rfl, h⟩ := hinv
    intro H locs A hw hS hl hol hos
    exact lv_lor (rest := r.map (mv S)) hx hb hd (h H locs A hw hS hl hol ⟨trivial, hos.2.2⟩)
  case lshl =>
    obtain ⟨hd, rfl⟩ := ck1 hk
    have hinv := pLI_inv h
    clear h
    obtain ⟨x1, x2, r, rfl, h⟩ := hinv
    intro H locs A hw hS hl hol hos
    exact lv_lshl (rest := r.map (mv S)) hx hb hd rfl (h H locs A hw hS hl hol ⟨trivial, hos.2.2⟩)
  case lshr =>
    obtain ⟨hd, rfl⟩ := ck1 hk
    have hinv := pLI_inv h
    clear h
    obtain ⟨x1, x2, r, rfl, h⟩ := hinv
    intro H locs A hw hS hl hol hos
    exact lv_lshr (rest := r.map (mv S)) hx hb hd rfl (h H locs A hw hS hl hol ⟨trivial, hos.2.2⟩)
  case lcmp =>
    obtain ⟨hd, rfl⟩ := ck1 hk
    have hinv := pLL_inv h
    clear h
    obtain ⟨x1, x2, r, rfl, h⟩ := hinv
    intro H locs A hw hS hl hol hos
    exact W.lcmp (rest := r.map (mv S)) hx hb hd (h H locs A hw hS hl hol ⟨trivial, hos.2.2⟩)
  case i2l =>
    obtain ⟨hd, rfl⟩ := ck1 hk
    have hinv := pI_inv h
    clear h
    obtain ⟨x1, r, rfl, h⟩ := hinv
    intro H locs A hw hS hl hol hos
    exact lv_i2l (rest := r.map (mv S)) hx hb hd rfl (h H locs A hw hS hl hol ⟨trivial, hos.2⟩)
  case i2b =>
    obtain ⟨hd, rfl⟩ := ck1 hk
    have hinv := pI_inv h
    clear h
    obtain ⟨x1, r, rfl, h⟩ := hinv
    intro H locs A hw hS hl hol hos
    exact lv_i2b (rest := r.map (mv S)) hx hb hd rfl (h H locs A hw hS hl hol ⟨trivial, hos.2⟩)
  case i2s =>
    obtain ⟨hd, rfl⟩ := ck1 hk
    have hinv := pI_inv h
    clear h
    obtain ⟨x1, r, rfl, h⟩ := hinv
    intro H locs A hw hS hl hol hos
    exact lv_i2s (rest := r.map (mv S)) hx hb hd rfl (h H locs A hw hS hl hol ⟨trivial, hos.2⟩)
  case l2i =>
    obtain ⟨hd, rfl⟩ := ck1 hk
    have hinv := pL_inv h
    clear h
    obtain ⟨x1, r, rfl, h⟩ := hinv
    intro H locs A hw hS hl hol hos
    exact lv_l2i (rest := r.map (mv S)) hx hb hd rfl (h H locs A hw hS hl hol ⟨trivial, hos.2⟩)
  case dup =>
    obtain ⟨hd, rfl⟩ := ck1 hk
    simp only [stepO] at h
    split at h
    · rename_i x1 r
      intro H locs A hw hS hl hol hos
      exact lv_dup (rest := r.map (mv S)) hx hb hd rfl (h H locs A hw hS hl hol ⟨trivial, trivial, hos.2⟩)
    · rename_i t i r
      intro H locs A hw hS hl hol hos
      exact lv_dup (rest := r.map (mv S)) hx hb hd rfl (h H locs A hw hS hl hol ⟨hos.1, hos.1, hos.2⟩)
    · exact absurd h id
  case dup2 =>
    obtain ⟨hd, rfl⟩ := ck1 hk
    simp only [stepO] at h
    split at h
    · rename_i b t i r
      intro H locs A hw hS hl hol hos
      exact lv_dup2_11 (rest := r.map (mv S)) hx hb hd rfl rfl (h H locs A hw hS hl hol ⟨trivial, hos.2.1, trivial, hos.2.1, hos.2.2⟩)
    · exact absurd h id
  case pop =>
    obtain ⟨hd, rfl⟩ := ck1 hk
    simp only [stepO] at h
    split at h
    · rename_i x1 r
      intro H locs A hw hS hl hol hos
      exact lv_pop (rest := r.map (mv S)) hx hb hd rfl (h H locs A hw hS hl hol hos.2)
    · rename_i q r
      intro H locs A hw hS hl hol hos
      exact lv_pop (rest := r.map (mv S)) hx hb hd rfl (h H locs A hw hS hl hol hos.2)
    · exact absurd h id
  case iload v0 =>
    simp only [stepO] at h
    split at h
    · rename_i x1 hat
      intro H locs A hw hS hl hol hos
      simp only [chkO] at hk
      split at hk
      · rename_i k hd
        simp only [Bool.and_eq_true] at hk
        obtain rfl := Nat.eq_of_beq_eq_true hk.1
        exact lv_iload_n (rest := st.map (mv S)) hx hb (dec_of hd) (Nat.eq_of_beq_eq_true hk.2) (hl.2.2 _ _ hat) (h H locs A hw hS hl hol ⟨trivial, hos⟩)
      · rename_i k hd
        simp only [Bool.and_eq_true] at hk
        obtain rfl := Nat.eq_of_beq_eq_true hk.1
        obtain rfl := Nat.eq_of_beq_eq_true hk.2
        exact lv_iload (rest := st.map (mv S)) hx hb (dec_of hd) (hl.2.2 _ _ hat) (h H locs A hw hS hl hol ⟨trivial, hos⟩)
      · cases hk
    · exact absurd h id
  case lload v0 =>
    simp only [stepO] at h
    split at h
    · rename_i x1 hat
      intro H locs A hw hS hl hol hos
      simp only [chkO] at hk
      split at hk
      · rename_i k hd
        simp only [Bool.and_eq_true] at hk
        obtain rfl := Nat.eq_of_beq_eq_true hk.1
        exact lv_lload_n (rest := st.map (mv S)) hx hb (dec_of hd) (Nat.eq_of_beq_eq_true hk.2) (hl.2.2 _ _ hat) (h H locs A hw hS hl hol ⟨trivial, hos⟩)
      · rename_i k hd
        simp only [Bool.and_eq_true] at hk
        obtain rfl := Nat.eq_of_beq_eq_true hk.1
        obtain rfl := Nat.eq_of_beq_eq_true hk.2
        exact lv_lload (rest := st.map (mv S)) hx hb (dec_of hd) (hl.2.2 _ _ hat) (h H locs A hw hS hl hol ⟨trivial, hos⟩)
      · cases hk
    · exact absurd h id
  case aload v0 =>
    simp only [stepO] at h
    split at h
    · rename_i t i hat
      intro H locs A hw hS hl hol hos
      simp only [chkO] at hk
      split at hk
      · rename_i k hd
        simp only [Bool.and_eq_true] at hk
        obtain rfl := Nat.eq_of_beq_eq_true hk.1
        exact lv_aload_n (rest := st.map (mv S)) hx hb (dec_of hd) (Nat.eq_of_beq_eq_true hk.2) (hl.2.2 _ _ hat) (h H locs A hw hS hl hol ⟨hol _ _ hat, hos⟩)
      · rename_i k hd
        simp only [Bool.and_eq_true] at hk
        obtain rfl := Nat.eq_of_beq_eq_true hk.1
        obtain rfl := Nat.eq_of_beq_eq_true hk.2
        exact lv_aload (rest := st.map (mv S)) hx hb (dec_of hd) (hl.2.2 _ _ hat) (h H locs A hw hS hl hol ⟨hol _ _ hat, hos⟩)
      · cases hk
    · exact absurd h id
  case istore v0 =>
    simp only [stepO] at h
    have hinv := pI_inv h
    clear h
    obtain ⟨x1, r, rfl, h⟩ := hinv
    rw [l_kill_eq, l_put_eq] at h
    intro H locs A hw hS hl hol hos
    simp only [chkO] at hk
    split at hk
    · rename_i k hd
      simp only [Bool.and_eq_true] at hk
      obtain rfl := Nat.eq_of_beq_eq_true hk.1.1
      obtain rfl := Nat.eq_of_beq_eq_true hk.1.2
      exact lv_istore_n (rest := r.map (mv S)) hx hb (dec_of hd) rfl hl.lv (Nat.le_of_ble_eq_true hk.2) rfl (fun A' hA' => h H locs A' hw hS (hl.st1 hA') (hol.put (fun w hw => by cases hw; trivial)) hos.2)
    · rename_i k hd
      simp only [Bool.and_eq_true] at hk
      obtain rfl := Nat.eq_of_beq_eq_true hk.1.1
      obtain rfl := Nat.eq_of_beq_eq_true hk.1.2
      exact lv_istore (rest := r.map (mv S)) hx hb (dec_of hd) hl.lv (Nat.le_of_ble_eq_true hk.2) rfl (fun A' hA' => h H locs A' hw hS (hl.st1 hA') (hol.put (fun w hw => by cases hw; trivial)) hos.2)
    · cases hk
  case astore v0 =>
    simp only [stepO] at h
    have hinv := pR_inv h
    clear h
    obtain ⟨t, i, r, rfl, h⟩ := hinv
    rw [l_kill_eq, l_put_eq] at h
    intro H locs A hw hS hl hol hos
    simp only [chkO] at hk
    split at hk
    · rename_i k hd
      simp only [Bool.and_eq_true] at hk
      obtain rfl := Nat.eq_of_beq_eq_true hk.1.1
      obtain rfl := Nat.eq_of_beq_eq_true hk.1.2
      exact lv_astore_n (rest := r.map (mv S)) hx hb (dec_of hd) rfl hl.lv (Nat.le_of_ble_eq_true hk.2) rfl (fun A' hA' => h H locs A' hw hS (hl.st1 hA') (hol.put (fun w hw => by cases hw; exact hos.1)) hos.2)
    · rename_i k hd
      simp only [Bool.and_eq_true] at hk
      obtain rfl := Nat.eq_of_beq_eq_true hk.1.1
      obtain rfl := Nat.eq_of_beq_eq_true hk.1.2
      exact lv_astore (rest := r.map (mv S)) hx hb (dec_of hd) hl.lv (Nat.le_of_ble_eq_true hk.2) rfl (fun A' hA' => h H locs A' hw hS (hl.st1 hA') (hol.put (fun w hw => by cases hw; exact hos.1)) hos.2)
    · cases hk
  case lstore v0 =>
    simp only [stepO] at h
    have hinv := pL_inv h
    clear h
    obtain ⟨x1, r, rfl, h⟩ := hinv
    rw [l_kill_eq, l_put_eq, l_put_eq] at h
    intro H locs A hw hS hl hol hos
    simp only [chkO] at hk
    split at hk
    · rename_i k hd
      simp only [Bool.and_eq_true] at hk
      obtain rfl := Nat.eq_of_beq_eq_true hk.1.1
      obtain rfl := Nat.eq_of_beq_eq_true hk.1.2
      exact lv_lstore_n (rest := r.map (mv S)) hx hb (dec_of hd) rfl hl.lv (Nat.le_of_ble_eq_true hk.2) rfl (fun A' hA' => h H locs A' hw hS (hl.st2 hA') ((hol.put (fun w hw => by cases hw; trivial)).put2) hos.2)
    · rename_i k hd
      simp only [Bool.and_eq_true] at hk
      obtain rfl := Nat.eq_of_beq_eq_true hk.1.1
      obtain rfl := Nat.eq_of_beq_eq_true hk.1.2
      exact lv_lstore (rest := r.map (mv S)) hx hb (dec_of hd) hl.lv (Nat.le_of_ble_eq_true hk.2) rfl (fun A' hA' => h H locs A' hw hS (hl.st2 hA') ((hol.put (fun w hw => by cases hw; trivial)).put2) hos.2)
    · cases hk
  case iinc v0 v1 =>
    simp only [stepO] at h
    split at h
    · rename_i x1 hat
      rw [l_kill_eq, l_put_eq] at h
      intro H locs A hw hS hl hol hos
      simp only [chkO] at hk
      split at hk
      · rename_i k n hd
        simp only [Bool.and_eq_true, decide_eq_true_eq] at hk
        obtain ⟨⟨⟨h1, h2⟩, h3⟩, h4⟩ := hk
        obtain rfl := Nat.eq_of_beq_eq_true h1
        obtain rfl := Nat.eq_of_beq_eq_true h2
        obtain ⟨z, hz⟩ := List.getElem?_of_mem (lvOf_mem.mpr ⟨hl.lt hat, _, hat, rfl⟩ : (k, mv S (sI x1)) ∈ lvOf S (mxOf y) ls)
        exact lv_iinc (v := x1 + c0) (rest := st.map (mv S)) hx hb (dec_of hd) hl.lv hz (by rw [h4]) (Nat.le_of_ble_eq_true h3) rfl (fun A' hA' => h H locs A' hw hS (hl.st1 hA') (hol.put (fun w hw => by cases hw; trivial)) hos)
      · cases hk
    · exact absurd h id
  case iconst v0 =>
    intro H locs A hw hS hl hol hos
    simp only [chkO] at hk
    split at hk
    · rename_i v hd
      simp only [Bool.and_eq_true, decide_eq_true_eq] at hk
      obtain rfl := Nat.eq_of_beq_eq_true hk.1
      exact lv_iconst (rest := st.map (mv S)) hx hb (dec_of hd) hk.2 (h H locs A hw hS hl hol ⟨trivial, hos⟩)
    · rename_i v hd
      simp only [Bool.and_eq_true, decide_eq_true_eq] at hk
      obtain rfl := Nat.eq_of_beq_eq_true hk.1
      exact lv_bipush (rest := st.map (mv S)) hx hb (dec_of hd) hk.2 (h H locs A hw hS hl hol ⟨trivial, hos⟩)
    · rename_i v hd
      simp only [Bool.and_eq_true, decide_eq_true_eq] at hk
      obtain rfl := Nat.eq_of_beq_eq_true hk.1
      exact lv_sipush (rest := st.map (mv S)) hx hb (dec_of hd) hk.2 (h H locs A hw hS hl hol ⟨trivial, hos⟩)
    · rename_i v hd
      simp only [Bool.and_eq_true, decide_eq_true_eq] at hk
      obtain rfl := Nat.eq_of_beq_eq_true hk.1
      exact lv_ldc (rest := st.map (mv S)) hx hb hown (hgd _ (sf_I hk.2)) (dec_of hd) (h H locs A hw hS hl hol ⟨trivial, hos⟩)
    · rename_i v hd
      simp only [Bool.and_eq_true, decide_eq_true_eq] at hk
      obtain rfl := Nat.eq_of_beq_eq_true hk.1
      exact lv_ldcw (rest := st.map (mv S)) hx hb hown (hgd _ (sf_I hk.2)) (dec_of hd) (h H locs A hw hS hl hol ⟨trivial, hos⟩)
    · cases hk
  case lconst v0 =>
    intro H locs A hw hS hl hol hos
    simp only [chkO] at hk
    split at hk
    · rename_i v hd
      simp only [Bool.and_eq_true, decide_eq_true_eq] at hk
      obtain rfl := Nat.eq_of_beq_eq_true hk.1
      exact lv_lconst (rest := st.map (mv S)) hx hb (dec_of hd) hk.2 (h H locs A hw hS hl hol ⟨trivial, hos⟩)
    · rename_i v hd
      simp only [Bool.and_eq_true, decide_eq_true_eq] at hk
      obtain rfl := Nat.eq_of_beq_eq_true hk.1
      exact lv_ldc2 (rest := st.map (mv S)) hx hb hown (hgd _ (sf_L hk.2)) (dec_of hd) (h H locs A hw hS hl hol ⟨trivial, hos⟩)
    · cases hk
  case ldc v0 =>
    intro H locs A hw hS hl hol hos
    simp only [chkO] at hk
    split at hk
    · rename_i v hd
      simp only [Bool.and_eq_true, decide_eq_true_eq] at hk
      obtain rfl := Nat.eq_of_beq_eq_true hk.1
      have hs := List.all_eq_true.mp kS_rng _ hk.2
      simp only [Bool.and_eq_true] at hs
      exact va_ldcS (rest := st.map (mv S)) hx hb hown (hKU.2.2 _ hk.2) (dec_of hd) (h H locs A hw hS hl hol ⟨Or.inr (Or.inl ⟨Nat.le_of_ble_eq_true hs.1, Nat.le_of_ble_eq_true hs.2, rfl⟩), hos⟩)
    · cases hk
  case if_icmp v0 v1 =>
    have hinv := pII_inv h
    clear h
    obtain ⟨x1, x2, r, rfl, h⟩ := hinv
    intro H locs A hw hS hl hol hos
    simp only [chkO] at hk
    split at hk
    · rename_i c' off hd
      simp only [Bool.and_eq_true, decide_eq_true_eq] at hk
      obtain ⟨⟨h1, h2⟩, h3⟩ := hk
      obtain rfl := Nat.eq_of_beq_eq_true h1
      subst h2
      cases v0 with
      | eq => exact lv_icmp_eq (rest := r.map (mv S)) hx hb (dec_of hd) h3 (fun q => h.1 q H locs A hw hS hl hol hos.2.2) (fun q => h.2 q H locs A hw hS hl hol hos.2.2)
      | ne => exact lv_icmp_ne (rest := r.map (mv S)) hx hb (dec_of hd) h3 (fun q => h.1 q H locs A hw hS hl hol hos.2.2) (fun q => h.2 q H locs A hw hS hl hol hos.2.2)
      | lt => exact lv_icmp_lt (rest := r.map (mv S)) hx hb (dec_of hd) h3 (fun q => h.1 q H locs A hw hS hl hol hos.2.2) (fun q => h.2 q H locs A hw hS hl hol hos.2.2)
      | ge => exact lv_icmp_ge (rest := r.map (mv S)) hx hb (dec_of hd) h3 (fun q => h.1 q H locs A hw hS hl hol hos.2.2) (fun q => h.2 q H locs A hw hS hl hol hos.2.2)
      | gt => exact lv_icmp_gt (rest := r.map (mv S)) hx hb (dec_of hd) h3 (fun q => h.1 q H locs A hw hS hl hol hos.2.2) (fun q => h.2 q H locs A hw hS hl hol hos.2.2)
      | le => exact lv_icmp_le (rest := r.map (mv S)) hx hb (dec_of hd) h3 (fun q => h.1 q H locs A hw hS hl hol hos.2.2) (fun q => h.2 q H locs A hw hS hl hol hos.2.2)
    · cases hk
  case ifCond v0 v1 =>
    have hinv := pI_inv h
    clear h
    obtain ⟨x1, r, rfl, h⟩ := hinv
    intro H locs A hw hS hl hol hos
    simp only [chkO] at hk
    split at hk
    · rename_i c' off hd
      simp only [Bool.and_eq_true, decide_eq_true_eq] at hk
      obtain ⟨⟨h1, h2⟩, h3⟩ := hk
      obtain rfl := Nat.eq_of_beq_eq_true h1
      subst h2
      cases v0 with
      | eq => exact lv_if_eq (rest := r.map (mv S)) hx hb (dec_of hd) h3 (fun q => h.1 q H locs A hw hS hl hol hos.2) (fun q => h.2 q H locs A hw hS hl hol hos.2)
      | ne => exact lv_if_ne (rest := r.map (mv S)) hx hb (dec_of hd) h3 (fun q => h.1 q H locs A hw hS hl hol hos.2) (fun q => h.2 q H locs A hw hS hl hol hos.2)
      | lt => exact lv_if_lt (rest := r.map (mv S)) hx hb (dec_of hd) h3 (fun q => h.1 q H locs A hw hS hl hol hos.2) (fun q => h.2 q H locs A hw hS hl hol hos.2)
      | ge => exact lv_if_ge (rest := r.map (mv S)) hx hb (dec_of hd) h3 (fun q => h.1 q H locs A hw hS hl hol hos.2) (fun q => h.2 q H locs A hw hS hl hol hos.2)
      | gt => exact lv_if_gt (rest := r.map (mv S)) hx hb (dec_of hd) h3 (fun q => h.1 q H locs A hw hS hl hol hos.2) (fun q => h.2 q H locs A hw hS hl hol hos.2)
      | le => exact lv_if_le (rest := r.map (mv S)) hx hb (dec_of hd) h3 (fun q => h.1 q H locs A hw hS hl hol hos.2) (fun q => h.2 q H locs A hw hS hl hol hos.2)
    · cases hk
  case goto v0 =>
    intro H locs A hw hS hl hol hos
    simp only [chkO] at hk
    split at hk
    · rename_i off hd
      simp only [decide_eq_true_eq] at hk
      exact lv_goto (rest := st.map (mv S)) hx hb (dec_of hd) hk (h H locs A hw hS hl hol hos)
    · cases hk
  case tableswitch v0 lo hi offs =>
    have hinv := pI_inv h
    clear h
    obtain ⟨x1, r, rfl, h⟩ := hinv
    intro H locs A hw hS hl hol hos
    simp only [chkO] at hk
    split at hk
    · rename_i df lo' hi' offs' len hd
      simp only [Bool.and_eq_true, decide_eq_true_eq] at hk
      obtain ⟨⟨⟨⟨⟨⟨⟨⟨rfl, rfl⟩, h3⟩, h4⟩, h5⟩, h6⟩, h7⟩, h8⟩, h9⟩ := hk
      obtain ⟨g1, g2⟩ := swP_inv offs.toList lo h6 (by omega) h
      by_cases q1 : x1.toInt < lo
      · exact lv_tableOut (rest := r.map (mv S)) hx hb (dec_of hd) (Or.inl q1) h3 (g1 (Or.inl q1) H locs A hw hS hl hol hos.2)
      · by_cases q2 : hi < x1.toInt
        · exact lv_tableOut (rest := r.map (mv S)) hx hb (dec_of hd) (Or.inr q2) h3 (g1 (Or.inr (by omega)) H locs A hw hS hl hol hos.2)
        · have hj : (x1.toInt - lo).toNat < offs.toList.length := by omega
          cases e3 : offs'.toList[(x1.toInt - lo).toNat]? with
          | none =>
            have q3 := List.getElem?_eq_none_iff.mp e3
            have q4 := congrArg List.length h4
            rw [List.length_map] at q4
            omega
          | some off =>
            have e4 : offs.toList[(x1.toInt - lo).toNat]? = some ((pc : Int) + off) := by rw [h4, List.getElem?_map, e3]; rfl
            have h0 : 0 ≤ (pc : Int) + off := by
              have := List.all_eq_true.mp h9 _ (List.mem_of_getElem? e4)
              simpa using this
            refine lv_tableIn (rest := r.map (mv S)) (tgt := ((pc : Int) + off).toNat) hx hb (dec_of hd) q1 q2 (by rw [← Array.getElem?_toList]; exact e3) (by omega) ?_
            exact g2 _ _ e4 (by omega) H locs A hw hS hl hol hos.2
    · cases hk
  case getfield g =>
    simp only [stepO] at h
    have hinv := pR_inv h
    clear h
    obtain ⟨t, i, r, rfl, h⟩ := hinv
    have hinv := cond_inv h
    clear h
    obtain ⟨hc, h⟩ := hinv
    rw [Bool.and_eq_true] at hc
    obtain rfl := Nat.eq_of_beq_eq_true hc.1
    have ha : a < (nth [] shp t).length := Nat.le_of_ble_eq_true hc.2
    intro H locs A hw hS hl hol hos
    simp only [chkO] at hk
    split at hk
    · rename_i idx hd
      simp only [Bool.and_eq_true, decide_eq_true_eq] at hk
      obtain rfl := Nat.eq_of_beq_eq_true hk.1
      have ht : t < 59 := List.all_eq_true.mp kF_rng _ hk.2 |> fun z => Nat.le_of_ble_eq_true z
      have hv := okV_ob hos.1 ht
      refine r_get (rest := r.map (mv S)) hx hb hgd hown hK hw hv hk.2 ha (dec_of hd) ?_
      have hfo := fld_ok t i a hv ha
      split at h
      · rename_i hq
        rw [hq]
        exact h H locs A hw hS hl hol ⟨trivial, hos.2⟩
      · rename_i t' hq
        rw [hq] at hfo ⊢
        exact h H locs A hw hS hl hol ⟨Or.inl hfo, hos.2⟩
      · rename_i t' j hq
        rw [hq] at hfo ⊢
        exact h H locs A hw hS hl hol ⟨Or.inl hfo, hos.2⟩
    · cases hk
  case putfield g =>
    simp only [stepO] at h
    have hinv := pRI_inv h
    clear h
    obtain ⟨t, i, x1, r, rfl, h⟩ := hinv
    have hinv := cond_inv h
    clear h
    obtain ⟨hc, h⟩ := hinv
    rw [Bool.and_eq_true] at hc
    obtain rfl := Nat.eq_of_beq_eq_true hc.1
    have ha : a < (nth [] shp t).length := Nat.le_of_ble_eq_true hc.2
    intro H locs A hw hS hl hol hos
    simp only [chkO] at hk
    split at hk
    · rename_i idx hd
      simp only [Bool.and_eq_true, decide_eq_true_eq] at hk
      obtain rfl := Nat.eq_of_beq_eq_true hk.1
      have ht : t < 59 := List.all_eq_true.mp kF_rng _ hk.2 |> fun z => Nat.le_of_ble_eq_true z
      have hv := okV_ob hos.2.1 ht
      split at h
      · rename_i hq
        exact r_put (rest := r.map (mv S)) hx hb hgd hown hK hj hw hS hv hk.2 ha hq (dec_of hd) (fun H1 locs1 hw1 hS1 => h H1 locs1 A hw1 hS1 hl hol hos.2.2)
      · exact absurd h id
    · cases hk
  case iaload =>
    obtain ⟨hd, rfl⟩ := ck1 hk
    simp only [stepO] at h
    have hinv := pRI_inv h
    clear h
    obtain ⟨t, i, k, r, rfl, h⟩ := hinv
    intro H locs A hw hS hl hol hos
    split at h
    · rename_i n ha
      exact r_iald (rest := r.map (mv S)) hx hb hK hw (okV_ar hos.2.1 ha (by decide)) ha h.1 hd (h.2 H locs A hw hS hl hol ⟨trivial, hos.2.2⟩)
    · rename_i n ha
      obtain ⟨hlw1, hlw2⟩ : lw ∧ t = 59 := by
        rcases hos.2.1 with q | q | q
        · exact absurd ha (no5 t q.1 n)
        · exact absurd ha (no5' t q.1 q.2.1 n)
        · exact ⟨q.1, q.2.1⟩
      have hi0 : i = 0 := by
        rcases hos.2.1 with q | q | q
        · exact absurd ha (no5 t q.1 n)
        · exact q.2.2
        · exact q.2.2
      subst hlw2
      subst hi0
      obtain ⟨hX, hb1, hb2, -⟩ := hlw hlw1
      rw [hw.2] at h
      have h2 := h.2 H locs A hw hS hl hol ⟨trivial, hos.2.2⟩
      rw [hw.2] at h2
      exact va_sld (rest := r.map (mv S)) hx hb hX hb1 hb2 hS h.1 hd h2
    · exact absurd h id
  case baload =>
    obtain ⟨hd, rfl⟩ := ck1 hk
    simp only [stepO] at h
    have hinv := pRI_inv h
    clear h
    obtain ⟨t, i, k, r, rfl, h⟩ := hinv
    intro H locs A hw hS hl hol hos
    split at h
    · rename_i n ha
      exact r_bald (rest := r.map (mv S)) hx hb hK hw (okV_ar hos.2.1 ha (by decide)) ha h.1 hd (h.2 H locs A hw hS hl hol ⟨trivial, hos.2.2⟩)
    · rename_i n ha
      exact r_zald (rest := r.map (mv S)) hx hb hK hw (okV_ar hos.2.1 ha (by decide)) ha h.1 hd (h.2 H locs A hw hS hl hol ⟨trivial, hos.2.2⟩)
    · exact absurd h id
  case laload =>
    obtain ⟨hd, rfl⟩ := ck1 hk
    simp only [stepO] at h
    have hinv := pRI_inv h
    clear h
    obtain ⟨t, i, k, r, rfl, h⟩ := hinv
    intro H locs A hw hS hl hol hos
    split at h
    · rename_i n ha
      exact r_lald (rest := r.map (mv S)) hx hb hK hw (okV_ar hos.2.1 ha (by decide)) ha h.1 hd (h.2 H locs A hw hS hl hol ⟨trivial, hos.2.2⟩)
    · exact absurd h id
  case aaload =>
    obtain ⟨hd, rfl⟩ := ck1 hk
    simp only [stepO] at h
    have hinv := pRI_inv h
    clear h
    obtain ⟨t, i, k, r, rfl, h⟩ := hinv
    intro H locs A hw hS hl hol hos
    split at h
    · rename_i n ha
      have hk8 : k.toNatClampNeg < 8 := by
        have hn := ar4 t n ha
        have h1 := h.1
        rw [hn] at h1
        exact Nat.not_le.mp fun q => h1 (Or.inr q)
      exact r_aald (rest := r.map (mv S)) hx hb hK hw (okV_ar hos.2.1 ha (by decide)) ha h.1 hd (h.2 H locs A hw hS hl hol ⟨Or.inl ⟨by decide, by show 3 + k.toNatClampNeg < 11; omega⟩, hos.2.2⟩)
    · exact absurd h id
  case iastore =>
    obtain ⟨hd, rfl⟩ := ck1 hk
    simp only [stepO] at h
    have hinv := pRII_inv h
    clear h
    obtain ⟨t, i, k, x1, r, rfl, h⟩ := hinv
    intro H locs A hw hS hl hol hos
    split at h
    · rename_i n ha
      exact r_iast (rest := r.map (mv S)) hx hb hK hj hw hS (okV_ar hos.2.2.1 ha (by decide)) ha h.1 hd (fun H1 locs1 hw1 hS1 => h.2 H1 locs1 A hw1 hS1 hl hol hos.2.2.2)
    · exact absurd h id
  case bastore =>
    obtain ⟨hd, rfl⟩ := ck1 hk
    simp only [stepO] at h
    have hinv := pRII_inv h
    clear h
    obtain ⟨t, i, k, x1, r, rfl, h⟩ := hinv
    intro H locs A hw hS hl hol hos
    split at h
    · rename_i n ha
      exact r_bast (rest := r.map (mv S)) hx hb hK hj hw hS (okV_ar hos.2.2.1 ha (by decide)) ha h.1 hd (fun H1 locs1 hw1 hS1 => h.2 H1 locs1 A hw1 hS1 hl hol hos.2.2.2)
    · rename_i n ha
      exact r_zast (rest := r.map (mv S)) hx hb hK hj hw hS (okV_ar hos.2.2.1 ha (by decide)) ha h.1 hd (fun H1 locs1 hw1 hS1 => h.2 H1 locs1 A hw1 hS1 hl hol hos.2.2.2)
    · exact absurd h id
  case lastore =>
    obtain ⟨hd, rfl⟩ := ck1 hk
    simp only [stepO] at h
    have hinv := pRIL_inv h
    clear h
    obtain ⟨t, i, k, x1, r, rfl, h⟩ := hinv
    intro H locs A hw hS hl hol hos
    split at h
    · rename_i n ha
      exact r_last (rest := r.map (mv S)) hx hb hK hj hw hS (okV_ar hos.2.2.1 ha (by decide)) ha h.1 hd (fun H1 locs1 hw1 hS1 => h.2 H1 locs1 A hw1 hS1 hl hol hos.2.2.2)
    · exact absurd h id
  case arraylength =>
    obtain ⟨hd, rfl⟩ := ck1 hk
    simp only [stepO] at h
    have hinv := pR_inv h
    clear h
    obtain ⟨t, i, r, rfl, h⟩ := hinv
    intro H locs A hw hS hl hol hos
    split at h
    · rename_i n ha
      exact r_alen (rest := r.map (mv S)) hx hb hK hw (okV_ar hos.1 ha (by decide)) ha hd (h H locs A hw hS hl hol ⟨trivial, hos.2⟩)
    · rename_i n ha
      obtain ⟨hlw1, hlw2⟩ : lw ∧ t = 59 := by
        rcases hos.1 with q | q | q
        · exact absurd ha (no5 t q.1 n)
        · exact absurd ha (no5' t q.1 q.2.1 n)
        · exact ⟨q.1, q.2.1⟩
      have hi0 : i = 0 := by
        rcases hos.1 with q | q | q
        · exact absurd ha (no5 t q.1 n)
        · exact q.2.2
        · exact q.2.2
      subst hlw2
      subst hi0
      obtain ⟨hX, hb1, hb2, hb3⟩ := hlw hlw1
      have h2 := h H locs A hw hS hl hol ⟨trivial, hos.2⟩
      rw [hw.2, ← hb3] at h2
      exact va_slen (rest := r.map (mv S)) hx hb hX hb1 hb2 hS hd h2
    · exact absurd h id
  case ireturn =>
    have hd : decode (btOf y) pc = .ok (.ireturn, 1) := (ck1 hk).1
    have hrt : rtOf y = some .int := by have := hrt0; rw [hce] at this; simpa using this
    simp only [stepO] at h
    split at h
    · intro H locs A hw hS hl hol hos
      exact (hret H locs A pc μ hw hS).1 _ hrt hd h
    · exact absurd h id
  case freturn =>
    have hd : decode (btOf y) pc = .ok (.ireturn, 1) := dec_of (of_decide_eq_true hk)
    have hrt : rtOf y = some .boolean := by have := hrt0; rw [hce] at this; simpa using this
    simp only [stepO] at h
    split at h
    · intro H locs A hw hS hl hol hos
      exact (hret H locs A pc μ hw hS).2.1 _ hrt h.1 hd h.2
    · exact absurd h id
  case lreturn =>
    have hd : decode (btOf y) pc = .ok (.lreturn, 1) := (ck1 hk).1
    have hrt : rtOf y = some .long := by have := hrt0; rw [hce] at this; simpa using this
    simp only [stepO] at h
    split at h
    · intro H locs A hw hS hl hol hos
      exact (hret H locs A pc μ hw hS).2.2.1 _ hrt hd h
    · exact absurd h id
  case areturn =>
    have hd : decode (btOf y) pc = .ok (.areturn, 1) := (ck1 hk).1
    have hrt : rkT (rtOf y) = 3 := by have := hrt0; rw [hce] at this; exact Nat.eq_of_beq_eq_true this
    simp only [stepO] at h
    split at h
    · have hinv := cond_inv h
      clear h
      obtain ⟨hc, h⟩ := hinv
      intro H locs A hw hS hl hol hos
      exact (hret H locs A pc μ hw hS).2.2.2.1 _ _ hrt (okV_ob hos.1 (Nat.le_of_ble_eq_true hc)) hd h
    · exact absurd h id
  case return_ =>
    have hd : decode (btOf y) pc = .ok (.return_, 1) := (ck1 hk).1
    have hrt : rtOf y = none := by have := hrt0; rw [hce] at this; simpa using this
    simp only [stepO] at h
    split at h
    · intro H locs A hw hS hl hol hos
      exact (hret H locs A pc μ hw hS).2.2.2.2 hrt hd h
    · exact absurd h id
  case invokeinterface na rk =>
    have hinv := popK_inv _ _ _ h
    clear h
    obtain ⟨as, r, rfl, hlen, h⟩ := hinv
    rw [List.append_nil] at h
    have hinv := cond_inv h
    clear h
    obtain ⟨hc, h⟩ := hinv
    simp only [Bool.and_eq_true] at hc
    obtain ⟨⟨hc1, hc2⟩, hc3⟩ := hc
    intro H locs A hw hS hl hol hos
    have hos2 := okS_app.mp hos
    have hoa : okS lw as := okS_rev.mp hos2.1
    have hoa' := okS_noS hc2 hoa
    have hkk : a < 253 ∧ rk = rkT (rtOf a) ∧ nx = pc + 3 ∧ ∃ idx, (isOf a = 1 ∧ (owOf y, idx, a) ∈ kM ∧ as.length = npOf a + 1 ∧ (∃ i as', as = sR (owOf a) i :: as' ∧ vT (owOf a) i) ∧ decode (btOf y) pc = .ok (.invokevirtual idx, 3)) ∨ (isOf a = 0 ∧ ((owOf y, idx, a) ∈ kM ∨ (owOf y, idx, a) ∈ kN) ∧ as.length = npOf a ∧ decode (btOf y) pc = .ok (.invokestatic idx, 3)) := by
      simp only [chkO] at hk
      split at hk
      · rename_i idx hd
        simp only [Bool.and_eq_true, decide_eq_true_eq] at hk
        obtain ⟨⟨⟨⟨⟨⟨h1, h2⟩, h3⟩, h4⟩, h5⟩, h6⟩, h7⟩ := hk
        have h3 := Nat.eq_of_beq_eq_true h3
        have h4 := Nat.eq_of_beq_eq_true h4
        have h5 : npOf a < 15 := Nat.le_of_ble_eq_true h5
        have h7 : a < 253 := Nat.le_of_ble_eq_true h7
        refine ⟨h7, Nat.eq_of_beq_eq_true h6, Nat.eq_of_beq_eq_true h1, idx, Or.inl ⟨h3, h2, by rw [hlen, h4]; omega, ?_, dec_of hd⟩⟩
        have e : na / 16 = owOf a + 1 := by omega
        rw [e] at hc3
        have hob := ob_lt _ (ow_lt h7 h3)
        match as, hc3, hoa' with
        | .inr (.inr (t, i)) :: as', hc3, hoa' =>
          obtain rfl : t = owOf a := Nat.eq_of_beq_eq_true hc3
          exact ⟨i, as', rfl, okV_ob hoa'.1 hob.1⟩
        | .inl _ :: _, hc3, _ => cases hc3
        | .inr (.inl _) :: _, hc3, _ => cases hc3
        | [], hc3, _ => cases hc3
      · rename_i idx hd
        simp only [Bool.and_eq_true, Bool.or_eq_true, decide_eq_true_eq] at hk
        obtain ⟨⟨⟨⟨⟨⟨h1, h2⟩, h3⟩, h4⟩, h5⟩, h6⟩, h7⟩ := hk
        have h4 := Nat.eq_of_beq_eq_true h4
        have h5 : npOf a < 15 := Nat.le_of_ble_eq_true h5
        exact ⟨Nat.le_of_ble_eq_true h7, Nat.eq_of_beq_eq_true h6, Nat.eq_of_beq_eq_true h1, idx, Or.inr ⟨Nat.eq_of_beq_eq_true h3, h2, by rw [hlen, h4]; omega, dec_of hd⟩⟩
      · cases hk
    obtain ⟨hz, rfl, rfl, idx, hk2⟩ := hkk
    have hr8 : ctS r ≤ 8 := Nat.le_of_ble_eq_true hc1
    have fin : ∀ Q' : sQ, C a as μ Q' → (∀ (v : Int32) (w : Int64) (q : Nat × Nat) (μ' : sM) (H1 : Heap) (locs1 : List Loc), Q' v w q μ' → (3 ≤ rkT (rtOf a) → vT q.1 q.2) → wd S μ' H1 → va_S (Aw S) s.heap H1 locs1 → W p l e R s m args below meth c H1 locs1 ce sl ZZ (F0 m (pc + 3) A (rtv S (rkT (rtOf a)) v w q ++ r.map (mv S)))) → W p l e R s m args below meth c H locs ce sl ZZ (F0 m pc A ((as.reverse ++ r).map (mv S))) :=
      fun Q' hq kk => r_call hx hb hml hl.1 hgd hown hKU hSU hw hS hz (hC a as μ Q' hz hoa' hq) hR hcs hr8 hk2 kk
    generalize hrk : rkT (rtOf a) = rk at h fin
    match rk, h, fin with
    | 0, h, fin => exact fin _ h (fun v w q μ' H1 locs1 hq _ hw1 hS1 => hq H1 locs1 A hw1 hS1 hl hol hos2.2)
    | 1, h, fin => exact fin _ h (fun v w q μ' H1 locs1 hq _ hw1 hS1 => hq H1 locs1 A hw1 hS1 hl hol ⟨trivial, hos2.2⟩)
    | 2, h, fin => exact fin _ h (fun v w q μ' H1 locs1 hq _ hw1 hS1 => hq H1 locs1 A hw1 hS1 hl hol ⟨trivial, hos2.2⟩)
    | n + 3, h, fin => exact fin _ h (fun v w q μ' H1 locs1 hq hv hw1 hS1 => hq H1 locs1 A hw1 hS1 hl hol ⟨Or.inl (hv (by omega)), hos2.2⟩)
  case invokedynamic v0 =>
    simp only [stepO] at h
    split at h
    · have hinv := pCP_inv h
      clear h
      obtain ⟨t, i, sp, t', i', dp, n, r, rfl, h⟩ := hinv
      have hinv := cond_inv h
      clear h
      obtain ⟨hc, h⟩ := hinv
      have hr8 : ctS r ≤ 8 := Nat.le_of_ble_eq_true hc
      intro H locs A hw hS hl hol hos
      simp only [chkO] at hk
      split at hk
      · rename_i idx hd
        simp only [Bool.and_eq_true, decide_eq_true_eq] at hk
        obtain rfl := Nat.eq_of_beq_eq_true hk.1.1
        split at h
        · rename_i n0 n1 ha ha'
          exact r_copy (rest := r.map (mv S)) hx hb hgd (by rw [hml, hl.1]) hown hk.1.2 hK hj hw hS (okV_ar hos.2.2.2.2.1 ha (by decide)) (okV_ar hos.2.2.1 ha' (by decide)) ha ha' h.1 (by omega) (by rw [ctS_eq]; omega) (dec_of hd) (fun H1 locs1 hw1 hS1 => h.2 H1 locs1 A hw1 hS1 hl hol hos.2.2.2.2.2)
        · exact absurd h id
      · rename_i idx hd
        simp only [Bool.and_eq_true, Bool.or_eq_true] at hk
        rcases hk.2 with q | q <;> cases q
      · cases hk
    · have hinv := pR_inv h
      clear h
      obtain ⟨t, i, r, rfl, h⟩ := hinv
      have hinv := cond_inv h
      clear h
      obtain ⟨hc, h⟩ := hinv
      simp only [Bool.and_eq_true] at hc
      obtain ⟨⟨hc1, hc2⟩, hc3⟩ := hc
      have hr8 : ctS r ≤ 8 := Nat.le_of_ble_eq_true hc1
      have h60 : 60 ≤ t := Nat.le_of_ble_eq_true hc2
      have h70 : t < 70 := Nat.le_of_ble_eq_true hc3
      intro H locs A hw hS hl hol hos
      simp only [chkO] at hk
      split at hk
      · rename_i idx hd
        simp only [Bool.and_eq_true, Bool.or_eq_true] at hk
        rcases hk.2 with ((q | q) | q) | q <;> cases q
      · rename_i idx hd
        simp only [Bool.and_eq_true, decide_eq_true_eq] at hk
        obtain rfl := Nat.eq_of_beq_eq_true hk.1.1
        have hi0 : i = 0 := by
          rcases hos.1 with q | q | q
          · have := q.1; omega
          · exact q.2.2
          · have := q.2.1; omega
        subst hi0
        obtain ⟨j, rfl⟩ : ∃ j, t = 60 + j := ⟨t - 60, by omega⟩
        have ej : 60 + j - 60 = j := by omega
        rw [ej] at h
        exact (hstr H locs A pc idx j (r.map (mv S)) hS hl.1 (by rw [ctS_eq]; exact hr8) (by omega)).1 hk.1.2 (dec_of hd) (fun locs1 hS1 => h H locs1 A hw hS1 hl hol ⟨trivial, hos.2⟩)
      · cases hk
    · have hinv := pRI_inv h
      clear h
      obtain ⟨t, i, k, r, rfl, h⟩ := hinv
      have hinv := cond_inv h
      clear h
      obtain ⟨hc, h⟩ := hinv
      simp only [Bool.and_eq_true] at hc
      obtain ⟨⟨hc1, hc2⟩, hc3⟩ := hc
      have hr8 : ctS r ≤ 8 := Nat.le_of_ble_eq_true hc1
      have h60 : 60 ≤ t := Nat.le_of_ble_eq_true hc2
      have h70 : t < 70 := Nat.le_of_ble_eq_true hc3
      intro H locs A hw hS hl hol hos
      simp only [chkO] at hk
      split at hk
      · rename_i idx hd
        simp only [Bool.and_eq_true, Bool.or_eq_true] at hk
        rcases hk.2 with ((q | q) | q) | q <;> cases q
      · rename_i idx hd
        simp only [Bool.and_eq_true, decide_eq_true_eq] at hk
        obtain rfl := Nat.eq_of_beq_eq_true hk.1.1
        have hi0 : i = 0 := by
          rcases hos.2.1 with q | q | q
          · have := q.1; omega
          · exact q.2.2
          · have := q.2.1; omega
        subst hi0
        obtain ⟨j, rfl⟩ : ∃ j, t = 60 + j := ⟨t - 60, by omega⟩
        have ej : 60 + j - 60 = j := by omega
        rw [ej] at h
        exact (hstr H locs A pc idx j (r.map (mv S)) hS hl.1 (by rw [ctS_eq]; exact hr8) (by omega)).2 k h.1 hk.1.2 (dec_of hd) (fun locs1 hS1 => h.2 H locs1 A hw hS1 hl hol ⟨trivial, hos.2.2⟩)
      · cases hk
    · have hinv := pI_inv h
      clear h
      obtain ⟨x1, r, rfl, h⟩ := hinv
      have hinv := cond_inv h
      clear h
      obtain ⟨hc, h⟩ := hinv
      have hr8 : ctS r ≤ 8 := Nat.le_of_ble_eq_true hc
      intro H locs A hw hS hl hol hos
      simp only [chkO] at hk
      split at hk
      · rename_i idx hd
        simp only [Bool.and_eq_true, decide_eq_true_eq] at hk
        obtain rfl := Nat.eq_of_beq_eq_true hk.1.1
        exact va_mabs (rest := r.map (mv S)) hx hb (by rw [hml, hl.1]) hown (hgd _ (sf_A hk.1.2)) (hgd _ sf_st_abs) (hgd _ sf_math) (hgd _ sf_cd_abs) (by omega) (by rw [ctS_eq]; omega) hcs.1 hcs.2 (dec_of hd) (h H locs A hw hS hl hol ⟨trivial, hos.2⟩)
      · rename_i idx hd
        simp only [Bool.and_eq_true, Bool.or_eq_true] at hk
        rcases hk.2 with q | q <;> cases q
      · cases hk
    · have hinv := pII_inv h
      clear h
      obtain ⟨x1, x2, r, rfl, h⟩ := hinv
      have hinv := cond_inv h
      clear h
      obtain ⟨hc, h⟩ := hinv
      have hr8 : ctS r ≤ 8 := Nat.le_of_ble_eq_true hc
      intro H locs A hw hS hl hol hos
      simp only [chkO] at hk
      split at hk
      · rename_i idx hd
        simp only [Bool.and_eq_true, decide_eq_true_eq] at hk
        obtain rfl := Nat.eq_of_beq_eq_true hk.1.1
        exact va_mmin (rest := r.map (mv S)) hx hb (by rw [hml, hl.1]) hown (hgd _ (sf_A hk.1.2)) (hgd _ sf_st_min) (hgd _ sf_math) (hgd _ sf_cd_min) (by omega) (by rw [ctS_eq]; omega) hcs.1 hcs.2 (dec_of hd) (h H locs A hw hS hl hol ⟨trivial, hos.2.2⟩)
      · rename_i idx hd
        simp only [Bool.and_eq_true, Bool.or_eq_true] at hk
        rcases hk.2 with q | q <;> cases q
      · cases hk
    · have hinv := pII_inv h
      clear h
      obtain ⟨x1, x2, r, rfl, h⟩ := hinv
      have hinv := cond_inv h
      clear h
      obtain ⟨hc, h⟩ := hinv
      have hr8 : ctS r ≤ 8 := Nat.le_of_ble_eq_true hc
      intro H locs A hw hS hl hol hos
      simp only [chkO] at hk
      split at hk
      · rename_i idx hd
        simp only [Bool.and_eq_true, decide_eq_true_eq] at hk
        obtain rfl := Nat.eq_of_beq_eq_true hk.1.1
        exact va_mmax (rest := r.map (mv S)) hx hb (by rw [hml, hl.1]) hown (hgd _ (sf_A hk.1.2)) (hgd _ sf_st_max) (hgd _ sf_math) (hgd _ sf_cd_max) (by omega) (by rw [ctS_eq]; omega) hcs.1 hcs.2 (dec_of hd) (h H locs A hw hS hl hol ⟨trivial, hos.2.2⟩)
      · rename_i idx hd
        simp only [Bool.and_eq_true, Bool.or_eq_true] at hk
        rcases hk.2 with q | q <;> cases q
      · cases hk
    · exact absurd h id
  all_goals exact absurd h id
end SND
