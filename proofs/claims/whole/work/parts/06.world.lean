/-! the small machine's memory as cells of the heap -/
/-- what is fixed while the objects live: class numbers and slots, addresses by tag and number, the array classes, the script, the constants' bytes -/
abbrev sG : Type := va_G × (Nat → Nat → Nat) × (Nat → ClassId) × (Nat → Nat → Int32) × (Nat → Nat)
abbrev gD (S : sG) : va_G := S.1
abbrev gA (S : sG) : Nat → Nat → Nat := S.2.1
abbrev gC (S : sG) : Nat → ClassId := S.2.2.1
abbrev gX (S : sG) : Nat → Nat → Int32 := S.2.2.2.1
abbrev gV (S : sG) : Nat → Nat := S.2.2.2.2
def cnt (t : Nat) : Nat := bif (Nat.blt 7 t && Nat.blt t 13) then 11 else 1
def vT (t i : Nat) : Prop := t < 59 ∧ i < cnt t
def allP : List (Nat × Nat) := (List.range 59).flatMap (fun t => (List.range (cnt t)).map (fun i => (t, i)))
theorem allP_mem {t i : Nat} : (t, i) ∈ allP ↔ vT t i := by
  simp [allP, vT]
theorem allP_nd : allP.Nodup := by decide +kernel
theorem allP_at {t i : Nat} (h : vT t i) : ∃ k : Nat, allP[k]? = some (t, i) := List.getElem?_of_mem (allP_mem.mpr h)
theorem allP_inj {k k' : Nat} {q : Nat × Nat} (h : allP[k]? = some q) (h' : allP[k']? = some q) : k = k' := by
  exact (List.getElem?_inj (List.getElem?_eq_some_iff.mp h).1 allP_nd).mp (h.trans h'.symm)
/-- an object's fields -/
def fv1 (S : sG) (μ : sM) (t i k : Nat) (f : Option (Nat × Option Nat)) : Value := match f with
  | none => Value.int (μ.1 t i k)
  | some (t', none) => Value.ref (gA S t' i)
  | some (t', some j) => Value.ref (gA S t' j)
def fvs (S : sG) (μ : sM) (t i : Nat) : List (Option (Nat × Option Nat)) → Nat → List Value
  | [], _ => []
  | f :: fs, k => fv1 S μ t i k f :: fvs S μ t i fs (k + 1)
def wE (S : sG) (μ : sM) (t i : Nat) : va_E := match nth (9, 0) ars t with
  | (0, n) => .inl (gC S 0, n, .inl (μ.1 t i))
  | (1, n) => .inl (gC S 1, n, .inl (μ.1 t i))
  | (2, n) => .inl (gC S 2, n, .inl (μ.1 t i))
  | (3, n) => .inl (gC S 3, n, .inr (.inl (μ.2 t)))
  | (4, n) => .inl (gC S 4, n, .inr (.inr (.inr (.inr (fun k => some (gA S 8 (3 + k)))))))
  | _ => .inr (ciT t, fvs S μ t i (nth [] shp t) 0)
def wsM (S : sG) (μ : sM) : va_W := allP.map (fun q => (gA S q.1 q.2, wE S μ q.1 q.2))
def tysS (S : sG) : List (ClassId × FieldType) := [(gC S 0, .int), (gC S 1, .byte), (gC S 2, .boolean), (gC S 3, .long), (gC S 4, .object "TableArms$Table")]
/-- the heap holds the memory -/
def wd (S : sG) (μ : sM) (H : Heap) : Prop := va_P (gD S) clL (wsM S μ) H ∧ ∀ i k, μ.1 59 i k = gX S i k
def injS (S : sG) : Prop := ∀ t i t' i', vT t i → vT t' i' → gA S t i = gA S t' i' → t = t' ∧ i = i'
def Aw (S : sG) (q : Nat) : Prop := ∃ t i, vT t i ∧ q = gA S t i
theorem wsM_at {S : sG} {μ : sM} {k t i : Nat} (h : allP[k]? = some (t, i)) : (wsM S μ)[k]? = some (gA S t i, wE S μ t i) := by
  rw [wsM, List.getElem?_map, h]; rfl
theorem wsM_inv {S : sG} {μ : sM} {k : Nat} {q : Nat × va_E} (h : (wsM S μ)[k]? = some q) : ∃ t i, allP[k]? = some (t, i) ∧ vT t i ∧ q = (gA S t i, wE S μ t i) := by
  rw [wsM, List.getElem?_map] at h
  cases hk : allP[k]? with
  | none => rw [hk] at h; cases h
  | some z =>
    obtain ⟨t, i⟩ := z
    rw [hk] at h
    exact ⟨t, i, rfl, allP_mem.mp (List.mem_of_getElem? hk), (Option.some.inj h).symm⟩
theorem wsM_D {S : sG} {μ : sM} (hj : injS S) : va_D (Aw S) (wsM S μ) := by
  refine ⟨fun a b p q ha hb e => ?_, fun k q hk => ?_⟩
  · obtain ⟨t, i, h1, h2, rfl⟩ := wsM_inv ha
    obtain ⟨t', i', h3, h4, rfl⟩ := wsM_inv hb
    obtain ⟨rfl, rfl⟩ := hj t i t' i' h2 h4 e
    exact allP_inj h1 h3
  · obtain ⟨t, i, h1, h2, rfl⟩ := wsM_inv hk
    exact ⟨t, i, h2, rfl⟩
/-- a write at one cell -/
theorem wsM_set {S : sG} {μ μ' : sM} {k t i : Nat} (h : allP[k]? = some (t, i)) (ho : ∀ t' i', vT t' i' → (t', i') ≠ (t, i) → wE S μ t' i' = wE S μ' t' i') :
    (wsM S μ).set k (gA S t i, wE S μ' t i) = wsM S μ' := by
  have hlt : k < allP.length := (List.getElem?_eq_some_iff.mp h).1
  apply List.ext_getElem?
  intro j
  by_cases hj : k = j
  · subst hj
    rw [List.getElem?_set_self (by rw [wsM, List.length_map]; exact hlt), wsM_at h]
  · rw [List.getElem?_set_ne hj, wsM, wsM, List.getElem?_map, List.getElem?_map]
    cases hq : allP[j]? with
    | none => rfl
    | some q =>
      obtain ⟨t', i'⟩ := q
      have hv : vT t' i' := allP_mem.mp (List.mem_of_getElem? hq)
      have hne : (t', i') ≠ (t, i) := fun e => hj (allP_inj h (by rw [hq, e]))
      show some (gA S t' i', wE S μ t' i') = some (gA S t' i', wE S μ' t' i')
      rw [ho t' i' hv hne]
theorem fvs_congr {S : sG} {μ μ' : sM} {t i : Nat} : ∀ (fs : List (Option (Nat × Option Nat))) (k : Nat), (∀ j, k ≤ j → μ.1 t i j = μ'.1 t i j) → fvs S μ t i fs k = fvs S μ' t i fs k
  | [], _, _ => rfl
  | f :: fs, k, h => by
    rw [fvs, fvs, fvs_congr fs (k + 1) (fun j hj => h j (by omega))]
    congr 1
    cases f with
    | none => show Value.int _ = Value.int _; rw [h k (Nat.le_refl k)]
    | some z => obtain ⟨a, b⟩ := z; cases b <;> rfl
theorem fvs_set {S : sG} {μ : sM} {t i : Nat} {x : Int32} : ∀ (fs : List (Option (Nat × Option Nat))) (k a : Nat), a < fs.length → nth none fs a = none → (fvs S μ t i fs k).set a (.int x) = fvs S (m_i μ t i (k + a) x) t i fs k
  | [], _, _, h, _ => absurd h (Nat.not_lt_zero _)
  | f :: fs, k, 0, _, hn => by
    have hf : f = none := hn
    subst hf
    show Value.int x :: fvs S μ t i fs (k + 1) = _ :: fvs S (m_i μ t i (k + 0) x) t i fs (k + 1)
    rw [fvs_congr (μ' := m_i μ t i (k + 0) x) fs (k + 1) (fun j hj => by show _ = if t = t ∧ i = i ∧ j = k + 0 then x else _; rw [if_neg (by omega)])]
    congr 2
    show x = if t = t ∧ i = i ∧ k = k + 0 then x else _
    rw [if_pos ⟨rfl, rfl, rfl⟩]
  | f :: fs, k, a + 1, h, hn => by
    show _ :: (fvs S μ t i fs (k + 1)).set a (.int x) = _ :: fvs S (m_i μ t i (k + (a + 1)) x) t i fs (k + 1)
    rw [fvs_set fs (k + 1) a (by simpa using h) hn, show k + 1 + a = k + (a + 1) from by omega]
    congr 1
    cases f with
    | none =>
      show Value.int (μ.1 t i k) = Value.int (if t = t ∧ i = i ∧ k = k + (a + 1) then x else μ.1 t i k)
      rw [if_neg (by omega)]
    | some z => obtain ⟨b, c⟩ := z; cases c <;> rfl
theorem fvs_get {S : sG} {μ : sM} {t i : Nat} : ∀ (fs : List (Option (Nat × Option Nat))) (k a : Nat), a < fs.length → (fvs S μ t i fs k)[a]? = some (fv1 S μ t i (k + a) (nth none fs a))
  | [], _, _, h => absurd h (Nat.not_lt_zero _)
  | f :: fs, k, 0, _ => rfl
  | f :: fs, k, a + 1, h => by
    show (fvs S μ t i fs (k + 1))[a]? = _
    rw [fvs_get fs (k + 1) a (by simpa using h), show k + 1 + a = k + (a + 1) from by omega]
    rfl
theorem fvs_len {S : sG} {μ : sM} {t i : Nat} : ∀ (fs : List (Option (Nat × Option Nat))) (k : Nat), (fvs S μ t i fs k).length = fs.length
  | [], _ => rfl
  | f :: fs, k => by rw [fvs, List.length_cons, List.length_cons, fvs_len fs (k + 1)]
/-- other cells stay as they are -/
theorem wE_congr {S : sG} {μ μ' : sM} {t i : Nat} (h1 : ∀ k, μ.1 t i k = μ'.1 t i k) (h2 : ∀ k, μ.2 t k = μ'.2 t k) : wE S μ t i = wE S μ' t i := by
  have e1 : μ.1 t i = μ'.1 t i := funext h1
  have e2 : μ.2 t = μ'.2 t := funext h2
  unfold wE
  split <;> first | rw [e1] | rw [e2] | rfl | rw [fvs_congr _ _ (fun j _ => h1 j)]
theorem m_i_ne {μ : sM} {t i k t' i' k' : Nat} {x : Int32} (h : ¬ (t' = t ∧ i' = i)) : (m_i μ t i k x).1 t' i' k' = μ.1 t' i' k' := if_neg (fun e => h ⟨e.1, e.2.1⟩)
theorem m_i_upd {μ : sM} {t i k : Nat} {x : Int32} : (m_i μ t i k x).1 t i = upd (μ.1 t i) k x := by
  funext j
  show (if t = t ∧ i = i ∧ j = k then x else μ.1 t i j) = if j = k then x else μ.1 t i j
  by_cases h : j = k
  · rw [if_pos ⟨rfl, rfl, h⟩, if_pos h]
  · rw [if_neg (fun e => h e.2.2), if_neg h]
theorem m_l_upd {μ : sM} {t k : Nat} {x : Int64} : (m_l μ t k x).2 t = vp_updL (μ.2 t) k x := by
  funext j
  show (if t = t ∧ j = k then x else μ.2 t j) = if j = k then x else μ.2 t j
  by_cases h : j = k
  · rw [if_pos ⟨rfl, h⟩, if_pos h]
  · rw [if_neg (fun e => h e.2), if_neg h]
theorem cnt_one {t i : Nat} (h : vT t i) (h3 : (nth (9, 0) ars t).1 = 3) : i = 0 := by
  obtain ⟨h1, h2⟩ := h
  have key : (List.range 59).all (fun t => !Nat.beq (nth (9, 0) ars t).1 3 || Nat.beq (cnt t) 1) = true := by decide +kernel
  have := List.all_eq_true.mp key t (List.mem_range.mpr h1)
  rw [h3] at this
  have hc : cnt t = 1 := Nat.eq_of_beq_eq_true (by simpa using this)
  omega
/-- values as the machine has them -/
def mv (S : sG) (v : sv) : Value := match v with
  | .inl x => .int x
  | .inr (.inl x) => .long x
  | .inr (.inr (t, i)) => .ref (gA S t i)
def okV (lw : Prop) (v : sv) : Prop := match v with
  | .inl _ => True
  | .inr (.inl _) => True
  | .inr (.inr (t, i)) => vT t i ∨ (59 < t ∧ t < 70 ∧ i = 0) ∨ (lw ∧ t = 59 ∧ i = 0)
def okS (lw : Prop) : List sv → Prop
  | [] => True
  | v :: r => okV lw v ∧ okS lw r
def okL (lw : Prop) (ls : sO) : Prop := ∀ i v, l_at ls i = some v → okV lw v
def hasL (S : sG) (A : Array Slot) (n : Nat) (ls : sO) : Prop := A.size = n ∧ lv_wf A ∧ ∀ i v, l_at ls i = some v → A[i]? = some (.val (mv S v))
def lput : sO → Nat → Option sv → sO
  | [], 0, v => [v]
  | [], n + 1, v => none :: lput [] n v
  | _ :: l, 0, v => v :: l
  | a :: l, n + 1, v => a :: lput l n v
theorem l_put_eq : ∀ (ls : sO) (i : Nat) (v : Option sv) (k : sO → Prop), l_put ls i v k = k (lput ls i v)
  | [], 0, _, _ => rfl
  | [], n + 1, v, k => l_put_eq [] n v _
  | _ :: _, 0, _, _ => rfl
  | _ :: l, n + 1, v, k => l_put_eq l n v _
theorem l_at_put : ∀ (ls : sO) (i : Nat) (v : Option sv) (j : Nat), l_at (lput ls i v) j = if j = i then v else l_at ls j
  | [], 0, v, 0 => rfl
  | [], 0, v, j + 1 => rfl
  | [], n + 1, v, 0 => rfl
  | [], n + 1, v, j + 1 => by
    show l_at (lput [] n v) j = _
    rw [l_at_put [] n v j]
    by_cases h : j = n
    · rw [if_pos h, if_pos (by omega)]
    · rw [if_neg h, if_neg (by omega)]; cases j <;> rfl
  | a :: l, 0, v, 0 => rfl
  | a :: l, 0, v, j + 1 => rfl
  | a :: l, n + 1, v, 0 => rfl
  | a :: l, n + 1, v, j + 1 => by
    show l_at (lput l n v) j = _
    rw [l_at_put l n v j]
    by_cases h : j = n
    · rw [if_pos h, if_pos (by omega)]
    · rw [if_neg h, if_neg (by omega)]; rfl
def lkill (ls : sO) (i : Nat) : sO := match i with
  | 0 => ls
  | j + 1 => match l_at ls j with
    | some (.inr (.inl _)) => lput ls j none
    | _ => ls
theorem l_kill_eq (ls : sO) (i : Nat) (k : sO → Prop) : l_kill ls i k = k (lkill ls i) := by
  unfold l_kill lkill
  cases i with
  | zero => rfl
  | succ j =>
    dsimp only
    generalize l_at ls j = z
    rcases z with _ | x | x | q
    · rfl
    · rfl
    · exact l_put_eq _ _ _ _
    · rfl
/-- what is left of the others when a place is written -/
theorem l_at_kill {ls : sO} {i j : Nat} {v : sv} (h : l_at (lkill ls i) j = some v) : l_at ls j = some v ∧ ∀ S : sG, ¬ (j + 1 = i ∧ (mv S v).category = 2) := by
  unfold lkill at h
  cases i with
  | zero => exact ⟨h, fun S e => absurd e.1 (by omega)⟩
  | succ n =>
    dsimp only at h
    split at h
    · rw [l_at_put] at h
      by_cases e : j = n
      · rw [if_pos e] at h; cases h
      · rw [if_neg e] at h; exact ⟨h, fun S z => e (by omega)⟩
    · rename_i hn
      refine ⟨h, fun S z => ?_⟩
      have e : j = n := by omega
      subst e
      rcases v with x | x | ⟨t, q⟩
      · exact absurd z.2 (by simp [mv, Value.category])
      · exact hn x h
      · exact absurd z.2 (by simp [mv, Value.category])
def lvOf (S : sG) (n : Nat) (ls : sO) : List (Nat × Value) := (List.range n).filterMap (fun i => (l_at ls i).map (fun v => (i, mv S v)))
theorem lvOf_mem {S : sG} {n : Nat} {ls : sO} {q : Nat × Value} : q ∈ lvOf S n ls ↔ q.1 < n ∧ ∃ v, l_at ls q.1 = some v ∧ q.2 = mv S v := by
  simp only [lvOf, List.mem_filterMap, List.mem_range, Option.map_eq_some_iff]
  constructor
  · rintro ⟨i, hi, v, hv, rfl⟩
    exact ⟨hi, v, hv, rfl⟩
  · rintro ⟨hi, v, hv, e⟩
    exact ⟨q.1, hi, v, hv, by rw [← e]⟩
theorem hasL.lv {S : sG} {A : Array Slot} {n : Nat} {ls : sO} (h : hasL S A n ls) : lv_has A n (lvOf S n ls) := by
  refine ⟨h.1, h.2.1, fun q hq => ?_⟩
  obtain ⟨h1, v, h2, h3⟩ := lvOf_mem.mp hq
  rw [h3]; exact h.2.2 _ _ h2
theorem hasL.lt {S : sG} {A : Array Slot} {n : Nat} {ls : sO} (h : hasL S A n ls) {i : Nat} {v : sv} (hv : l_at ls i = some v) : i < n := by
  rw [← h.1]; exact lv_lt (h.2.2 _ _ hv)
/-- behind a store of one word -/
theorem hasL.st1 {S : sG} {A A' : Array Slot} {n i : Nat} {ls : sO} {v : sv} (h : hasL S A n ls) (h' : lv_has A' n ((i, mv S v) :: (lvOf S n ls).filter (fun q => !(q.1 == i) && !(q.1 + 1 == i && q.2.category == 2)))) : hasL S A' n (lput (lkill ls i) i (some v)) := by
  refine ⟨h'.1, h'.2.1, fun j w hw => ?_⟩
  rw [l_at_put] at hw
  by_cases e : j = i
  · rw [if_pos e] at hw
    cases hw
    subst e
    exact h'.2.2 (j, mv S v) List.mem_cons_self
  · rw [if_neg e] at hw
    obtain ⟨h1, h2⟩ := l_at_kill hw
    refine h'.2.2 (j, mv S w) (List.mem_cons_of_mem _ (List.mem_filter.mpr ⟨lvOf_mem.mpr ⟨h.lt h1, w, h1, rfl⟩, ?_⟩))
    have := h2 S
    simp only [Bool.and_eq_true, Bool.not_eq_true', beq_eq_false_iff_ne, Bool.and_eq_false_iff, ne_eq]
    refine ⟨e, ?_⟩
    by_cases z : j + 1 = i
    · exact Or.inr (fun c => this ⟨z, c⟩)
    · exact Or.inl z
/-- behind a store of two words -/
theorem hasL.st2 {S : sG} {A A' : Array Slot} {n i : Nat} {ls : sO} {v : sv} (h : hasL S A n ls) (h' : lv_has A' n ((i, mv S v) :: (lvOf S n ls).filter (fun q => !(q.1 == i) && (!(q.1 == i + 1) && !(q.1 + 1 == i && q.2.category == 2))))) : hasL S A' n (lput (lput (lkill ls i) i (some v)) (i + 1) none) := by
  refine ⟨h'.1, h'.2.1, fun j w hw => ?_⟩
  rw [l_at_put] at hw
  by_cases e2 : j = i + 1
  · rw [if_pos e2] at hw; cases hw
  rw [if_neg e2, l_at_put] at hw
  by_cases e : j = i
  · rw [if_pos e] at hw
    cases hw
    subst e
    exact h'.2.2 (j, mv S v) List.mem_cons_self
  · rw [if_neg e] at hw
    obtain ⟨h1, h2⟩ := l_at_kill hw
    refine h'.2.2 (j, mv S w) (List.mem_cons_of_mem _ (List.mem_filter.mpr ⟨lvOf_mem.mpr ⟨h.lt h1, w, h1, rfl⟩, ?_⟩))
    have := h2 S
    simp only [Bool.and_eq_true, Bool.not_eq_true', beq_eq_false_iff_ne, Bool.and_eq_false_iff, ne_eq]
    refine ⟨e, e2, ?_⟩
    by_cases z : j + 1 = i
    · exact Or.inr (fun c => this ⟨z, c⟩)
    · exact Or.inl z
theorem okL.put {lw : Prop} {ls : sO} {i : Nat} {v : Option sv} (h : okL lw ls) (hv : ∀ w, v = some w → okV lw w) : okL lw (lput (lkill ls i) i v) := by
  intro j w hw
  rw [l_at_put] at hw
  by_cases e : j = i
  · rw [if_pos e] at hw; exact hv w hw
  · rw [if_neg e] at hw; exact h j w (l_at_kill hw).1
theorem okL.put2 {lw : Prop} {ls : sO} {i : Nat} (h : okL lw ls) : okL lw (lput ls i none) := by
  intro j w hw
  rw [l_at_put] at hw
  by_cases e : j = i
  · rw [if_pos e] at hw; cases hw
  · rw [if_neg e] at hw; exact h j w hw
theorem okV.up {lw lw' : Prop} {v : sv} (h : okV False v) : okV lw v := by
  rcases v with x | x | ⟨t, i⟩
  · trivial
  · trivial
  · rcases h with h | h | h
    · exact Or.inl h
    · exact Or.inr (Or.inl h)
    · exact absurd h.1 id
