def ord0 : List (Nat × Nat) := [(0, 0)]
def ord1 : List (Nat × Nat) := [(1, 0), (3, 0), (4, 0), (2, 0)]
def ord2 : List (Nat × Nat) := [(5, 0), (6, 0), (7, 0)]
def ord3 : List (Nat × Nat) := [(8, 0), (9, 0), (10, 0), (11, 0), (12, 0)]
def ord4 : List (Nat × Nat) := [(13, 0)]
def ord5 : List (Nat × Nat) := [(14, 0), (15, 0), (8, 1), (9, 1), (10, 1), (11, 1), (12, 1)]
def ord6 : List (Nat × Nat) := [(16, 0), (17, 0), (18, 0), (19, 0), (8, 2), (9, 2), (10, 2), (11, 2), (12, 2), (8, 3), (9, 3), (10, 3), (11, 3), (12, 3), (8, 4), (9, 4), (10, 4), (11, 4), (12, 4), (8, 5), (9, 5), (10, 5), (11, 5), (12, 5), (8, 6), (9, 6), (10, 6), (11, 6), (12, 6), (8, 7), (9, 7), (10, 7), (11, 7), (12, 7), (8, 8), (9, 8), (10, 8), (11, 8), (12, 8), (8, 9), (9, 9), (10, 9), (11, 9), (12, 9), (8, 10), (9, 10), (10, 10), (11, 10), (12, 10)]
def ord7 : List (Nat × Nat) := [(20, 0), (21, 0), (22, 0), (23, 0), (24, 0), (25, 0), (26, 0), (27, 0)]
def ord8 : List (Nat × Nat) := [(28, 0), (29, 0), (30, 0), (31, 0), (32, 0)]
def ord9 : List (Nat × Nat) := [(33, 0), (34, 0)]
def ord10 : List (Nat × Nat) := [(35, 0), (36, 0), (37, 0), (38, 0)]
def ord11 : List (Nat × Nat) := [(39, 0), (40, 0)]
def ord12 : List (Nat × Nat) := [(41, 0), (42, 0), (43, 0), (44, 0), (45, 0), (46, 0), (47, 0), (48, 0), (49, 0), (50, 0), (51, 0), (52, 0), (53, 0), (54, 0), (55, 0), (56, 0), (57, 0), (58, 0)]
def ordL : List (Nat × Nat) := (((((((((((ord0 ++ ord1) ++ ord2) ++ ord3) ++ ord4) ++ ord5) ++ ord6) ++ ord7) ++ ord8) ++ ord9) ++ ord10) ++ ord11) ++ ord12
theorem ord_all : ∀ q ∈ allP, q ∈ ordL := by decide +kernel
def mu0f : List (Nat → Int32) := [(fun _ => 0), (fun _ => 0), (fl (fun _ => 0) (-1) 8), (fun _ => 0), (fun _ => 0), (fun _ => 0), (fun _ => 0), (fun _ => 0), (fun _ => 0), (fl (fun _ => 0) (-1000000) 6), (fl (fun _ => 0) (-1000000) 6), (fl (fun _ => 0) (-1000000) 6), (fl (fun _ => 0) (-1000000) 8), (fun _ => 0), (fun k => bif Nat.ble 4 k then -1000000 else 0), (upd (upd (fun _ => 0) 0 255) 1 255), (fun _ => 0), (fun _ => 0), (fun _ => 0), (fun _ => 0), (fun _ => 0), (fun _ => 0), (fun _ => 0), (fun _ => 0), (fun _ => 0), (fun _ => 0), (fun _ => 0), (fun _ => 0), (fun _ => 0), (fun _ => 0), (fun _ => 0), (fun _ => 0), (fun _ => 0), (fun _ => 0), (fun _ => 0), (fun _ => 0), (fun _ => 0), (fun _ => 0), (fun _ => 0), (fun _ => 0), (fun _ => 0), (fun _ => 0), (tf 6696), (fun _ => 0), (fun _ => 0), (upd (upd (fun _ => 0) 0 255) 1 255), (fun _ => 0), (fun _ => 0), (fun _ => 0), (fun _ => 0), (fun _ => 0), (upd (upd (upd (upd (upd (upd (upd (upd (fun _ => 0) 0 (-1)) 1 (-1)) 2 (-1)) 3 (-1)) 4 (-1)) 5 (-1)) 6 (-1)) 7 (-1)), (fun _ => 0), (fun _ => 0), (fun _ => 0), (fun _ => 0), (fun _ => 0), (fun _ => 0), (fun _ => 0)]
def mu0 (X : Nat → Nat → Int32) : sM := (fun t i => bif Nat.beq t 59 then X i else nth (fun _ => 0) mu0f t, fun _ _ => 0)
/-- the world as the constructors leave it: the shelf's row speaks of eight tables only -/
def wE1 (S : sG) (μ : sM) (f : Nat → Option Nat) (t i : Nat) : va_E := bif Nat.beq t 17 then .inl (gC S 4, 8, .inr (.inr (.inr (.inr f)))) else wE S μ t i
theorem cell17 {cA : ClassId} {f g : Nat → Option Nat} (h : ∀ k, k < 8 → f k = g k) : vp_cell cA (8, .inr (.inr (.inr (.inr f)))) = vp_cell cA (8, .inr (.inr (.inr (.inr g)))) := by
  have e : (fun j : Fin 8 => va_rf (f j.val)) = fun j : Fin 8 => va_rf (g j.val) := by
    funext j; rw [h j.val j.isLt]
  show ({ cls := cA, slots := Array.ofFn (n := 8) fun j => va_rf (f j.val), vm := .none } : Cell) = { cls := cA, slots := Array.ofFn (n := 8) fun j => va_rf (g j.val), vm := .none }
  rw [e]
theorem wd_built {S : sG} {μ : sM} {f : Nat → Option Nat} {A : Nat → Prop} {H : Heap} (hf : ∀ k, k < 8 → f k = some (gA S 8 (3 + k)))
    (hP : va_P (gD S) clL (ordL.map (fun q => (gA S q.1 q.2, wE1 S μ f q.1 q.2))) H) (hD : va_D A (ordL.map (fun q => (gA S q.1 q.2, wE1 S μ f q.1 q.2)))) : va_P (gD S) clL (wsM S μ) H ∧ injS S ∧ ∀ q, Aw S q → A q := by
  have key : ∀ t i, vT t i → ∃ j : Nat, ordL[j]? = some (t, i) ∧ (ordL.map (fun q => (gA S q.1 q.2, wE1 S μ f q.1 q.2)))[j]? = some (gA S t i, wE1 S μ f t i) := by
    intro t i h
    obtain ⟨j, hj⟩ := List.getElem?_of_mem (ord_all _ (allP_mem.mpr h))
    exact ⟨j, hj, by rw [List.getElem?_map, hj]; rfl⟩
  refine ⟨fun k x hx => ?_, fun t i t' i' h h' e => ?_, fun q hq => ?_⟩
  · obtain ⟨t, i, h1, h2, rfl⟩ := wsM_inv hx
    obtain ⟨j, -, hj⟩ := key t i h2
    have h3 := hP j _ hj
    by_cases e : t = 17
    · subst e
      have h4 : H[gA S 17 i]? = some (vp_cell (gC S 4) (8, .inr (.inr (.inr (.inr f))))) := h3
      show H[gA S 17 i]? = some (vp_cell (gC S 4) (8, .inr (.inr (.inr (.inr (fun k => some (gA S 8 (3 + k))))))))
      rw [h4, cell17 hf]
    · have e2 : wE1 S μ f t i = wE S μ t i := by
        unfold wE1
        rw [show Nat.beq t 17 = false from by
          cases hb : Nat.beq t 17 with
          | true => exact absurd (Nat.eq_of_beq_eq_true hb) e
          | false => rfl]
        rfl
      rw [e2] at h3
      exact h3
  · obtain ⟨j, h1, h2⟩ := key t i h
    obtain ⟨j', h1', h2'⟩ := key t' i' h'
    have := hD.1 j j' _ _ h2 h2' e
    subst this
    rw [h1] at h1'
    cases h1'
    exact ⟨rfl, rfl⟩
  · obtain ⟨t, i, h, rfl⟩ := hq
    obtain ⟨j, h1, h2⟩ := key t i h
    exact hD.2 j _ h2
def xIn : List (Nat × Nat) := [(0, 107), (1, 115), (5, 135), (8, 151), (13, 175), (14, 185), (16, 213), (20, 245), (28, 283), (33, 311), (35, 343), (39, 365), (41, 1211)]
theorem in_a : xIn.all (fun q => wAt q.2 (Cond.instantiable (clC q.1) (nth [] shp q.1).length)) = true := by decide +kernel
theorem in_b : ∀ t ∈ obT, ∃ q ∈ xIn, q.1 = t := by decide +kernel
theorem ob_inst {t : Nat} (h : t ∈ obT) : Cond.instantiable (clC t) (nth [] shp t).length ∈ gd := by
  obtain ⟨q, hq, rfl⟩ := in_b t h
  exact wAt_gd (List.all_eq_true.mp in_a q hq)
theorem ob_c : ∀ c, c < 13 → nth 0 obT c ∈ obT ∧ ciT (nth 0 obT c) = c := by decide +kernel
theorem st_K {args : Array Value} {s : State} (hgd : ∀ w ∈ gd, w.before args s = true) : ∃ D : va_G, ∀ (c : Nat) (q : vw_C), clL[c]? = some q → u_Kn s q.1 q.2.1 q.2.2 (D.1 c) (D.2 c) := by
  have h0 : ∀ c : Nat, ∃ z : ClassId × (Nat → Nat), ∀ q : vw_C, clL[c]? = some q → u_Kn s q.1 q.2.1 q.2.2 z.1 z.2 := by
    intro c
    by_cases h : c < 13
    · obtain ⟨h1, h2⟩ := ob_c c h
      obtain ⟨cC, iS, hk⟩ := u_known (C := clC (nth 0 obT c)) (T := clT (nth 0 obT c)) (N := (nth [] shp (nth 0 obT c)).length) hgd (sf_lay h1) (hgd _ (ob_inst h1))
      refine ⟨(cC, iS), fun q hq => ?_⟩
      have h3 := cl_at _ h1
      rw [h2, hq] at h3
      cases h3
      exact hk
    · exact ⟨(0, fun _ => 0), fun q hq => absurd (List.getElem?_eq_some_iff.mp hq).1 (by show ¬ c < 13; omega)⟩
  obtain ⟨z, hz⟩ := Classical.axiomOfChoice h0
  exact ⟨(fun c => (z c).1, fun c => (z c).2), fun c q hq => hz c q hq⟩
theorem st_A {args : Array Value} {s : State} (ty : FieldType) (hp : ∀ C, ty ≠ .object C) (h : (Cond.arrayClass ty).before args s = true) : ∃ cA : ClassId, ArrOfT s cA ty ∧ va_RA s cA ty := by
  obtain ⟨cA, kA, comp, h1, h2, h3⟩ := Cond.arrayClass_spec h
  refine ⟨cA, fun n z => ⟨(fun k h => by cases h), kA, h2, comp, h3⟩, ?_⟩
  cases ty with
  | object C => exact absurd rfl (hp C)
  | _ => exact h1
theorem st_O {args : Array Value} {s : State} {C : String} (h : (Cond.arrayOver (.object C)).before args s = true) : ∃ cA : ClassId, ArrOfT s cA (.object C) ∧ va_RA s cA (.object C) := by
  obtain ⟨comp, cA, kA, h1, h2, h3, h4, h5⟩ := Cond.arrayOver_spec h
  exact ⟨cA, fun n z => ⟨(fun k h => by cases h), kA, h3, comp, h4⟩, kA, comp, h3, h4, h1, h5⟩
set_option maxRecDepth 100000 in
theorem ao_t : Cond.arrayOver (.object "TableArms$Table") ∈ lw_tbl := List.mem_of_getElem? (i := 219) rfl
theorem st_KC {args : Array Value} {s : State} (hts : ∀ w ∈ lw_tbl, w.before args s = true) : ∃ (D : va_G) (cy : Nat → ClassId), va_K D clL (tysC cy) s := by
  have hgd : ∀ w ∈ gd, w.before args s = true := fun w h => hts w (gd_tbl h)
  obtain ⟨D, hD⟩ := st_K hgd
  obtain ⟨c0, h0⟩ := st_A .int (fun C => by simp) (hgd _ ac_int)
  obtain ⟨c1, h1⟩ := st_A .byte (fun C => by simp) (hgd _ ac_byte)
  obtain ⟨c2, h2⟩ := st_A .boolean (fun C => by simp) (hgd _ ac_bool)
  obtain ⟨c3, h3⟩ := st_A .long (fun C => by simp) (hgd _ ac_long)
  obtain ⟨c4, h4⟩ := st_O (hts _ ao_t)
  refine ⟨D, nth 0 [c0, c1, c2, c3, c4], hD, fun k q hk => ?_⟩
  match k, hk with
  | 0, hk => cases hk; exact h0
  | 1, hk => cases hk; exact h1
  | 2, hk => cases hk; exact h2
  | 3, hk => cases hk; exact h3
  | 4, hk => cases hk; exact h4
  | k + 5, hk => cases hk
def tmR (i : Nat) : Term := .string "TableArms$Reader" (nth 0 [48, 54, 90, 92, 94, 96, 85, 101, 103, 105] i)
abbrev flR : List Cond := flatC (Jvm.Cond.and given_1 narrow_1)
set_option maxRecDepth 100000 in
theorem fl_ex : ∀ i, i < 10 → Cond.exactly (tmR i) "java/lang/String" ∈ flR := by decide +kernel
set_option maxRecDepth 100000 in
theorem fl_co : ∀ i, i < 10 → Cond.eq (.field (tmR i) "java/lang/String" "coder" "B") (.int 0) ∈ flR := by decide +kernel
set_option maxRecDepth 100000 in
theorem fl_ar : ∀ i, i < 10 → Cond.arrayOf (.field (tmR i) "java/lang/String" "value" "[B") .byte ∈ flR := by decide +kernel
set_option maxRecDepth 100000 in
theorem fl_le : ∀ i, i < 10 → Cond.eq (.length (.field (tmR i) "java/lang/String" "value" "[B")) (.int (Int32.ofNat (strL.getD i 0))) ∈ flR := by decide +kernel
set_option maxRecDepth 100000 in
theorem fl_el : ∀ i, i < 10 → ∀ j, j < strL.getD i 0 → Cond.eq (.elem (.field (tmR i) "java/lang/String" "value" "[B") (.int (Int32.ofNat j))) (.int ((strs.getD i []).getD j 0)) ∈ flR := by decide +kernel
set_option maxRecDepth 100000 in
theorem fl_ne : ∀ i, i < 10 → ∀ j, j < 10 → i = j ∨ Cond.not (Cond.eq (tmR i) (tmR j)) ∈ flR ∨ Cond.not (Cond.eq (tmR j) (tmR i)) ∈ flR := by decide +kernel
theorem fl_cs : Cond.eq (.static "java/lang/String" "COMPACT_STRINGS" "Z") (.int 1) ∈ flR := by decide +kernel
theorem fl_sf : Cond.isRef (.static "jdk/internal/util/Preconditions" "SIOOBE_FORMATTER" "Ljava/util/function/BiFunction;") ∈ flR := by decide +kernel
theorem strL_lt : ∀ i, i < 10 → strL.getD i 0 < 2 ^ 31 := by decide +kernel
set_option maxRecDepth 100000 in
theorem ls_cs : Cond.laysStatic "java/lang/String" "COMPACT_STRINGS" "Z" ∈ lw_tbl := List.mem_of_getElem? (i := 942) rfl
set_option maxRecDepth 100000 in
theorem ls_sf : Cond.laysStatic "jdk/internal/util/Preconditions" "SIOOBE_FORMATTER" "Ljava/util/function/BiFunction;" ∈ lw_tbl := List.mem_of_getElem? (i := 958) rfl
set_option maxRecDepth 100000 in
theorem li_cs : Cond.initialized "java/lang/String" ∈ lw_tbl := List.mem_of_getElem? (i := 102) rfl
set_option maxRecDepth 100000 in
theorem li_sf : Cond.initialized "jdk/internal/util/Preconditions" ∈ lw_tbl := List.mem_of_getElem? (i := 104) rfl
/-- what the statement gives of the constants -/
theorem st_S {b : Nat} {s : State} (hts : ∀ w ∈ lw_tbl, w.before #[Value.ref b] s = true) (hgv : (Jvm.Cond.and given_1 narrow_1).before #[Value.ref b] s = true) : ∃ adK adV : Nat → Nat, vk_S 10 strL strs adK adV (fun q => s.heap.size ≤ q) s s.heap ∧ (∀ i : Nat, i < 10 → (tmR i).eval #[Value.ref b] s none [] s = some (.ref (adK i))) ∧ va_Z "java/lang/String" "COMPACT_STRINGS" "Z" (.int 1) (fun q => s.heap.size ≤ q) s s.heap ∧ ∃ v : Value, (v = .null ∨ ∃ q, v = .ref q) ∧ va_Z "jdk/internal/util/Preconditions" "SIOOBE_FORMATTER" "Ljava/util/function/BiFunction;" v (fun q => s.heap.size ≤ q) s s.heap := by
  have hs := flat_of_before _ hgv
  have hA : ∀ a : Nat, a < s.heap.size → ¬ (fun q : Nat => s.heap.size ≤ q) a := fun a h => by show ¬ s.heap.size ≤ a; omega
  obtain ⟨adK, adV, h1, h2⟩ := vk_Sof (args := #[Value.ref b]) (s := s) (N := 10) (tm := tmR) (len := strL) (byt := strs) (A := fun q => s.heap.size ≤ q) strL_lt (fun i hi => hs _ (fl_ex i hi)) (fun i hi => hs _ (fl_co i hi)) (fun i hi => hs _ (fl_ar i hi)) (fun i hi => hs _ (fl_le i hi)) (fun i hi j hj => hs _ (fl_el i hi j hj))
    (fun i j hi hj hij => by
      rcases fl_ne i hi j hj with e | e | e
      · exact absurd e hij
      · exact Or.inl (hs _ e)
      · exact Or.inr (hs _ e)) hA
  refine ⟨adK, adV, h1, h2, va_Zof (hts _ ls_cs) (hts _ li_cs) (va_eqt (hs _ fl_cs)) hA, ?_⟩
  rcases va_Zqof (hts _ ls_sf) (hts _ li_sf) (hs _ fl_sf) hA with h | ⟨t, h⟩
  · exact ⟨_, Or.inl rfl, h⟩
  · exact ⟨_, Or.inr ⟨t, rfl⟩, h⟩
def xNs : List Nat := [437, 700, 502, 729, 586, 802, 742, 1015, 1111, 1112]
def xSs : List Nat := [928, 981, 1028, 1024, 1025, 1026, 1027, 1033, 1034, 1035]
def tAt (i : Nat) (w : Cond) : Bool := decide (lw_tbl[i]? = some w)
theorem tAt_in {i : Nat} {w : Cond} (h : tAt i w = true) : w ∈ lw_tbl := List.mem_of_getElem? (of_decide_eq_true h)
theorem ns_a : ∀ e ∈ kN, ∃ i ∈ xNs, tAt i (Wn e) = true := by decide +kernel
theorem ss_a : ∀ e ∈ kS, ∃ i ∈ xSs, tAt i (Cond.stringRef (clC e.1) e.2.1 (nth "" stx (e.2.2 - 60))) = true := by decide +kernel
theorem ss_b : ∀ e ∈ kS, 60 ≤ e.2.2 ∧ e.2.2 - 60 < 10 ∧ clC e.1 = "TableArms$Reader" ∧ e.2.1 = nth 0 [48, 54, 90, 92, 94, 96, 85, 101, 103, 105] (e.2.2 - 60) := by decide +kernel
set_option maxRecDepth 100000 in
theorem nk_a : Cond.methodLinkNest "TableArms" 18 yK_Stock "TableArms" ∈ lw_tbl := List.mem_of_getElem? (i := 136) rfl
set_option maxRecDepth 100000 in
theorem nk_b : Cond.methodLinkNest "TableArms" 82 yK_Crossing "TableArms" ∈ lw_tbl := List.mem_of_getElem? (i := 344) rfl
theorem on_Wn (e : Nat × Nat × Nat) : (Wn e).onTables = true := rfl
