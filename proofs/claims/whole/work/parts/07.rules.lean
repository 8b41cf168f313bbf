/-! the heap's instructions over the memory -/
theorem ob_of {t a : Nat} (ht : t < 59) (ha : a < (nth [] shp t).length) : t ∈ obT := by
  have h := List.all_eq_true.mp shp_ob t (List.mem_range.mpr ht)
  simp only [Bool.or_eq_true, decide_eq_true_eq] at h
  rcases h with h | h
  · rw [List.isEmpty_iff] at h
    rw [h] at ha
    exact absurd ha (Nat.not_lt_zero _)
  · exact h
theorem ob_ars : ∀ t ∈ obT, nth (9, 0) ars t = (9, 0) := by decide +kernel
theorem wE_ob {S : sG} {μ : sM} {t i : Nat} (h : t ∈ obT) : wE S μ t i = .inr (ciT t, fvs S μ t i (nth [] shp t) 0) := by
  unfold wE
  rw [ob_ars t h]
  rfl
theorem ob_int {t a : Nat} (ht : t ∈ obT) (ha : a < (nth [] shp t).length) (hn : nth none (nth [] shp t) a = none) : (clT t a).2.2.1 = "I" ∧ (clT t a).2.2.2 = false := by
  have h := List.all_eq_true.mp (List.all_eq_true.mp cl_int t ht) a (List.mem_range.mpr ha)
  rw [hn] at h
  simpa using h
theorem ob_ty {t : Nat} (ht : t ∈ obT) : ∀ k, k < (nth [] shp t).length → parseFieldDescriptor (clT t k).2.2.1 = some ((parseFieldDescriptor (clT t k).2.2.1).getD .int) := by
  intro k hk
  have h := List.all_eq_true.mp (List.all_eq_true.mp cl_ty t ht) k (List.mem_range.mpr hk)
  obtain ⟨z, hz⟩ := Option.isSome_iff_exists.mp h
  rw [hz]; rfl
theorem ob_nm {t : Nat} (ht : t ∈ obT) : ∀ a, a < (nth [] shp t).length → ∀ b, b < (nth [] shp t).length → a ≠ b → (clT t a).2.1 ≠ (clT t b).2.1 := by
  intro a ha b hb hab
  have h := List.all_eq_true.mp (List.all_eq_true.mp (List.all_eq_true.mp cl_nm t ht) a (List.mem_range.mpr ha)) b (List.mem_range.mpr hb)
  simp only [Bool.or_eq_true, decide_eq_true_eq] at h
  rcases h with h | h
  · exact absurd (Nat.eq_of_beq_eq_true h) hab
  · exact h
theorem pfd_I : parseFieldDescriptor "I" = some .int := by decide +kernel
section RL
variable {p : Program} {l : Launch} {e : Env} {R : Room} {s : State} {m : MethodId} {args : Array Value} {below : List Frame} {meth : Method} {c : Code} {H : Heap} {locs : List Loc} {cells slots : Nat} {Q : State → Prop}
variable {cc : ByteArray} {pc : Nat} {ls : Array Slot} {rest : List Value} {S : sG} {μ : sM} {H0 : Heap} {own idx t i a : Nat}
theorem r_get (hx : p.tables.exec = Jvm.exec) (hb : c.code = cc) (hgd : ∀ w ∈ gd, w.before args s = true) (hown : s.vm.findClass (clC own) = some m.cls) (hK : va_K (gD S) clL (tysS S) s) (hw : wd S μ H) (hv : vT t i) (he : (own, idx, t, a) ∈ kF) (ha : a < (nth [] shp t).length) (hdg : decode cc pc = .ok (.getfield idx, 3))
    (kk : W p l e R s m args below meth c H locs cells slots Q (F0 m (pc + 3) ls (fv1 S μ t i a (nth none (nth [] shp t) a) :: rest))) : W p l e R s m args below meth c H locs cells slots Q (F0 m pc ls (.ref (gA S t i) :: rest)) := by
  obtain ⟨k, hk⟩ := allP_at hv
  have ht := ob_of hv.1 ha
  have h1 := wsM_at (S := S) (μ := μ) hk
  rw [wE_ob ht] at h1
  have h2 := fvs_get (S := S) (μ := μ) (t := t) (i := i) (nth [] shp t) 0 a ha
  rw [Nat.zero_add] at h2
  exact va_get (D := gD S) (ref := (clT t a).1) (C := clC t) (T := clT t) (N := (nth [] shp t).length) hx hb hgd (sf_lay ht) hown hK hw.1 k h1 (cl_at t ht) a ha (hgd _ (sf_F he)) (fun _ h => h) h2 hdg kk
theorem r_put (hx : p.tables.exec = Jvm.exec) (hb : c.code = cc) (hgd : ∀ w ∈ gd, w.before args s = true) (hown : s.vm.findClass (clC own) = some m.cls) (hK : va_K (gD S) clL (tysS S) s) (hj : injS S) (hw : wd S μ H) (hS : va_S (Aw S) H0 H locs) (hv : vT t i) (he : (own, idx, t, a) ∈ kF) (ha : a < (nth [] shp t).length) (hn : nth none (nth [] shp t) a = none) {x : Int32} (hdg : decode cc pc = .ok (.putfield idx, 3))
    (kk : ∀ (H1 : Heap) (locs1 : List Loc), wd S (m_i μ t i a x) H1 → va_S (Aw S) H0 H1 locs1 → W p l e R s m args below meth c H1 locs1 cells slots Q (F0 m (pc + 3) ls rest)) : W p l e R s m args below meth c H locs cells slots Q (F0 m pc ls (.int x :: .ref (gA S t i) :: rest)) := by
  obtain ⟨k, hk⟩ := allP_at hv
  have ht := ob_of hv.1 ha
  have h1 := wsM_at (S := S) (μ := μ) hk
  rw [wE_ob ht] at h1
  obtain ⟨hI, hF⟩ := ob_int ht ha hn
  have hset : (wsM S μ).set k (gA S t i, .inr (ciT t, (fvs S μ t i (nth [] shp t) 0).set a (.int x))) = wsM S (m_i μ t i a x) := by
    have e2 := wsM_set (S := S) (μ := μ) (μ' := m_i μ t i a x) hk (fun t' i' _ hne => wE_congr (fun k' => (m_i_ne (fun e => hne (by rw [e.1, e.2]))).symm) (fun _ => rfl))
    rw [wE_ob ht] at e2
    rw [fvs_set _ _ _ ha hn, Nat.zero_add]
    exact e2
  refine va_put (D := gD S) (ref := (clT t a).1) (C := clC t) (T := clT t) (N := (nth [] shp t).length) (ty := .int) hx hb hgd (sf_lay ht) _ (ob_ty ht) (ob_nm ht) hown hK hw.1 (wsM_D hj) hS k h1 (cl_at t ht) a ha (hgd _ (sf_F he)) (fun _ h => h) hF (by rw [hI]; exact pfd_I) rfl rfl (by rw [fvs_len]; exact ha) hdg (fun H1 locs1 hP hD hS1 => ?_)
  rw [hset] at hP
  exact kk H1 locs1 ⟨hP, fun i' k' => by rw [m_i_ne (fun e => by have := hv.1; omega)]; exact hw.2 i' k'⟩ hS1
/-- a write into a row of numbers -/
theorem wd_i {x : Int32} {n y : Nat} (hj : injS S) (hw : wd S μ H) (hv : vT t i) {k : Nat} (hk : allP[k]? = some (t, i)) (ha : nth (9, 0) ars t = (y, n)) (hy : y = 0 ∨ y = 1 ∨ y = 2) {q : Nat} {H1 : Heap}
    (hP : va_P (gD S) clL ((wsM S μ).set k (gA S t i, .inl (gC S y, n, .inl (upd (μ.1 t i) q x)))) H1) : wd S (m_i μ t i q x) H1 := by
  have e2 := wsM_set (S := S) (μ := μ) (μ' := m_i μ t i q x) hk (fun t' i' _ hne => wE_congr (fun k' => (m_i_ne (fun e => hne (by rw [e.1, e.2]))).symm) (fun _ => rfl))
  have e3 : wE S (m_i μ t i q x) t i = .inl (gC S y, n, .inl (upd (μ.1 t i) q x)) := by
    unfold wE
    rw [ha]
    rw [← m_i_upd]
    rcases hy with rfl | rfl | rfl <;> rfl
  rw [e3] at e2
  rw [e2] at hP
  exact ⟨hP, fun i' k' => by rw [m_i_ne (fun e => by have := hv.1; omega)]; exact hw.2 i' k'⟩
theorem wE_i {n y : Nat} (ha : nth (9, 0) ars t = (y, n)) (hy : y = 0 ∨ y = 1 ∨ y = 2) : wE S μ t i = .inl (gC S y, n, .inl (μ.1 t i)) := by
  unfold wE
  rw [ha]
  rcases hy with rfl | rfl | rfl <;> rfl
theorem r_iald (hx : p.tables.exec = Jvm.exec) (hb : c.code = cc) (hK : va_K (gD S) clL (tysS S) s) (hw : wd S μ H) (hv : vT t i) {n : Nat} (ha : nth (9, 0) ars t = (0, n)) {k : Int32} (hin : vp_in k n) (hdg : decode cc pc = .ok (.iaload, 1))
    (kk : W p l e R s m args below meth c H locs cells slots Q (F0 m (pc + 1) ls (.int (μ.1 t i k.toNatClampNeg) :: rest))) : W p l e R s m args below meth c H locs cells slots Q (F0 m pc ls (.int k :: .ref (gA S t i) :: rest)) := by
  obtain ⟨z, hz⟩ := allP_at hv
  have h1 := wsM_at (S := S) (μ := μ) hz
  rw [wE_i ha (Or.inl rfl)] at h1
  exact va_iald hx hb hK hw.1 z 0 h1 rfl hin hdg kk
theorem r_bald (hx : p.tables.exec = Jvm.exec) (hb : c.code = cc) (hK : va_K (gD S) clL (tysS S) s) (hw : wd S μ H) (hv : vT t i) {n : Nat} (ha : nth (9, 0) ars t = (1, n)) {k : Int32} (hin : vp_in k n) (hdg : decode cc pc = .ok (.baload, 1))
    (kk : W p l e R s m args below meth c H locs cells slots Q (F0 m (pc + 1) ls (.int (μ.1 t i k.toNatClampNeg) :: rest))) : W p l e R s m args below meth c H locs cells slots Q (F0 m pc ls (.int k :: .ref (gA S t i) :: rest)) := by
  obtain ⟨z, hz⟩ := allP_at hv
  have h1 := wsM_at (S := S) (μ := μ) hz
  rw [wE_i ha (Or.inr (Or.inl rfl))] at h1
  exact va_bald hx hb hK hw.1 z 1 h1 rfl hin hdg kk
theorem r_zald (hx : p.tables.exec = Jvm.exec) (hb : c.code = cc) (hK : va_K (gD S) clL (tysS S) s) (hw : wd S μ H) (hv : vT t i) {n : Nat} (ha : nth (9, 0) ars t = (2, n)) {k : Int32} (hin : vp_in k n) (hdg : decode cc pc = .ok (.baload, 1))
    (kk : W p l e R s m args below meth c H locs cells slots Q (F0 m (pc + 1) ls (.int (μ.1 t i k.toNatClampNeg) :: rest))) : W p l e R s m args below meth c H locs cells slots Q (F0 m pc ls (.int k :: .ref (gA S t i) :: rest)) := by
  obtain ⟨z, hz⟩ := allP_at hv
  have h1 := wsM_at (S := S) (μ := μ) hz
  rw [wE_i ha (Or.inr (Or.inr rfl))] at h1
  exact va_zald hx hb hK hw.1 z 2 h1 rfl hin hdg kk
theorem r_lald (hx : p.tables.exec = Jvm.exec) (hb : c.code = cc) (hK : va_K (gD S) clL (tysS S) s) (hw : wd S μ H) (hv : vT t i) {n : Nat} (ha : nth (9, 0) ars t = (3, n)) {k : Int32} (hin : vp_in k n) (hdg : decode cc pc = .ok (.laload, 1))
    (kk : W p l e R s m args below meth c H locs cells slots Q (F0 m (pc + 1) ls (.long (μ.2 t k.toNatClampNeg) :: rest))) : W p l e R s m args below meth c H locs cells slots Q (F0 m pc ls (.int k :: .ref (gA S t i) :: rest)) := by
  obtain ⟨z, hz⟩ := allP_at hv
  have h1 := wsM_at (S := S) (μ := μ) hz
  have e : wE S μ t i = .inl (gC S 3, n, .inr (.inl (μ.2 t))) := by unfold wE; rw [ha]; rfl
  rw [e] at h1
  exact va_lald hx hb hK hw.1 z 3 h1 rfl hin hdg kk
theorem r_aald (hx : p.tables.exec = Jvm.exec) (hb : c.code = cc) (hK : va_K (gD S) clL (tysS S) s) (hw : wd S μ H) (hv : vT t i) {n : Nat} (ha : nth (9, 0) ars t = (4, n)) {k : Int32} (hin : vp_in k n) (hdg : decode cc pc = .ok (.aaload, 1))
    (kk : W p l e R s m args below meth c H locs cells slots Q (F0 m (pc + 1) ls (.ref (gA S 8 (3 + k.toNatClampNeg)) :: rest))) : W p l e R s m args below meth c H locs cells slots Q (F0 m pc ls (.int k :: .ref (gA S t i) :: rest)) := by
  obtain ⟨z, hz⟩ := allP_at hv
  have h1 := wsM_at (S := S) (μ := μ) hz
  have e : wE S μ t i = .inl (gC S 4, n, .inr (.inr (.inr (.inr (fun k => some (gA S 8 (3 + k))))))) := by unfold wE; rw [ha]; rfl
  rw [e] at h1
  exact va_aldq (C := "TableArms$Table") hx hb hK hw.1 z 4 h1 rfl hin hdg kk
theorem r_alen (hx : p.tables.exec = Jvm.exec) (hb : c.code = cc) (hK : va_K (gD S) clL (tysS S) s) (hw : wd S μ H) (hv : vT t i) {n : Nat} (ha : nth (9, 0) ars t = (0, n)) (hdg : decode cc pc = .ok (.arraylength, 1))
    (kk : W p l e R s m args below meth c H locs cells slots Q (F0 m (pc + 1) ls (.int (Int32.ofNat n) :: rest))) : W p l e R s m args below meth c H locs cells slots Q (F0 m pc ls (.ref (gA S t i) :: rest)) := by
  obtain ⟨z, hz⟩ := allP_at hv
  have h1 := wsM_at (S := S) (μ := μ) hz
  rw [wE_i ha (Or.inl rfl)] at h1
  exact va_alen hx hb hK hw.1 z 0 h1 rfl rfl hdg kk
theorem r_iast (hx : p.tables.exec = Jvm.exec) (hb : c.code = cc) (hK : va_K (gD S) clL (tysS S) s) (hj : injS S) (hw : wd S μ H) (hS : va_S (Aw S) H0 H locs) (hv : vT t i) {n : Nat} (ha : nth (9, 0) ars t = (0, n)) {k x : Int32} (hin : vp_in k n) (hdg : decode cc pc = .ok (.iastore, 1))
    (kk : ∀ (H1 : Heap) (locs1 : List Loc), wd S (m_i μ t i k.toNatClampNeg x) H1 → va_S (Aw S) H0 H1 locs1 → W p l e R s m args below meth c H1 locs1 cells slots Q (F0 m (pc + 1) ls rest)) : W p l e R s m args below meth c H locs cells slots Q (F0 m pc ls (.int x :: .int k :: .ref (gA S t i) :: rest)) := by
  obtain ⟨z, hz⟩ := allP_at hv
  have h1 := wsM_at (S := S) (μ := μ) hz
  rw [wE_i ha (Or.inl rfl)] at h1
  exact va_iast hx hb hK hw.1 (wsM_D hj) hS z 0 h1 rfl hin hdg (fun H1 locs1 hP _ hS1 => kk H1 locs1 (wd_i hj hw hv hz ha (Or.inl rfl) hP) hS1)
theorem r_bast (hx : p.tables.exec = Jvm.exec) (hb : c.code = cc) (hK : va_K (gD S) clL (tysS S) s) (hj : injS S) (hw : wd S μ H) (hS : va_S (Aw S) H0 H locs) (hv : vT t i) {n : Nat} (ha : nth (9, 0) ars t = (1, n)) {k x : Int32} (hin : vp_in k n) (hdg : decode cc pc = .ok (.bastore, 1))
    (kk : ∀ (H1 : Heap) (locs1 : List Loc), wd S (m_i μ t i k.toNatClampNeg (vp_nar .byte x)) H1 → va_S (Aw S) H0 H1 locs1 → W p l e R s m args below meth c H1 locs1 cells slots Q (F0 m (pc + 1) ls rest)) : W p l e R s m args below meth c H locs cells slots Q (F0 m pc ls (.int x :: .int k :: .ref (gA S t i) :: rest)) := by
  obtain ⟨z, hz⟩ := allP_at hv
  have h1 := wsM_at (S := S) (μ := μ) hz
  rw [wE_i ha (Or.inr (Or.inl rfl))] at h1
  exact va_bast hx hb hK hw.1 (wsM_D hj) hS z 1 h1 rfl hin hdg (fun H1 locs1 hP _ hS1 => kk H1 locs1 (wd_i hj hw hv hz ha (Or.inr (Or.inl rfl)) hP) hS1)
theorem r_zast (hx : p.tables.exec = Jvm.exec) (hb : c.code = cc) (hK : va_K (gD S) clL (tysS S) s) (hj : injS S) (hw : wd S μ H) (hS : va_S (Aw S) H0 H locs) (hv : vT t i) {n : Nat} (ha : nth (9, 0) ars t = (2, n)) {k x : Int32} (hin : vp_in k n) (hdg : decode cc pc = .ok (.bastore, 1))
    (kk : ∀ (H1 : Heap) (locs1 : List Loc), wd S (m_i μ t i k.toNatClampNeg (vp_nar .boolean x)) H1 → va_S (Aw S) H0 H1 locs1 → W p l e R s m args below meth c H1 locs1 cells slots Q (F0 m (pc + 1) ls rest)) : W p l e R s m args below meth c H locs cells slots Q (F0 m pc ls (.int x :: .int k :: .ref (gA S t i) :: rest)) := by
  obtain ⟨z, hz⟩ := allP_at hv
  have h1 := wsM_at (S := S) (μ := μ) hz
  rw [wE_i ha (Or.inr (Or.inr rfl))] at h1
  exact va_zast hx hb hK hw.1 (wsM_D hj) hS z 2 h1 rfl hin hdg (fun H1 locs1 hP _ hS1 => kk H1 locs1 (wd_i hj hw hv hz ha (Or.inr (Or.inr rfl)) hP) hS1)
theorem r_last (hx : p.tables.exec = Jvm.exec) (hb : c.code = cc) (hK : va_K (gD S) clL (tysS S) s) (hj : injS S) (hw : wd S μ H) (hS : va_S (Aw S) H0 H locs) (hv : vT t i) {n : Nat} (ha : nth (9, 0) ars t = (3, n)) {k : Int32} {x : Int64} (hin : vp_in k n) (hdg : decode cc pc = .ok (.lastore, 1))
    (kk : ∀ (H1 : Heap) (locs1 : List Loc), wd S (m_l μ t k.toNatClampNeg x) H1 → va_S (Aw S) H0 H1 locs1 → W p l e R s m args below meth c H1 locs1 cells slots Q (F0 m (pc + 1) ls rest)) : W p l e R s m args below meth c H locs cells slots Q (F0 m pc ls (.long x :: .int k :: .ref (gA S t i) :: rest)) := by
  obtain ⟨z, hz⟩ := allP_at hv
  have h1 := wsM_at (S := S) (μ := μ) hz
  have e : ∀ ν : sM, wE S ν t i = .inl (gC S 3, n, .inr (.inl (ν.2 t))) := by intro ν; unfold wE; rw [ha]; rfl
  rw [e] at h1
  have e2 := wsM_set (S := S) (μ := μ) (μ' := m_l μ t k.toNatClampNeg x) hz (fun t' i' hv' hne => wE_congr (fun _ => rfl) (fun k' => by
    show μ.2 t' k' = if t' = t ∧ k' = k.toNatClampNeg then x else μ.2 t' k'
    by_cases ht : t' = t
    · subst ht
      exact absurd (by rw [cnt_one hv (by rw [ha]), cnt_one hv' (by rw [ha])]) hne
    · rw [if_neg (fun z => ht z.1)]))
  rw [e, m_l_upd] at e2
  exact va_last hx hb hK hw.1 (wsM_D hj) hS z 3 h1 rfl hin hdg (fun H1 locs1 hP _ hS1 => kk H1 locs1 ⟨by rw [← e2]; exact hP, hw.2⟩ hS1)
theorem r_copy {t' i' : Nat} (hx : p.tables.exec = Jvm.exec) (hb : c.code = cc) (hgd : ∀ w ∈ gd, w.before args s = true) (hml : c.maxLocals = ls.size) (hown : s.vm.findClass (clC own) = some m.cls) (he : (own, idx, 1) ∈ kA) (hK : va_K (gD S) clL (tysS S) s) (hj : injS S) (hw : wd S μ H) (hS : va_S (Aw S) H0 H locs) (hv : vT t i) (hv' : vT t' i') {n0 n1 : Nat} (ha : nth (9, 0) ars t = (0, n0)) (ha' : nth (9, 0) ars t' = (0, n1))
    {sp dp n : Int32} (hc : ¬ sp < 0 ∧ ¬ dp < 0 ∧ ¬ n < 0 ∧ sp.toNatClampNeg + n.toNatClampNeg ≤ n0 ∧ dp.toNatClampNeg + n.toNatClampNeg ≤ n1) (hframes : 1 ≤ R.frames) (hlocals : (rest.map fun v => v.category).sum + 18 ≤ R.locals) (hdg : decode cc pc = .ok (.invokestatic idx, 3))
    (kk : ∀ (H1 : Heap) (locs1 : List Loc), wd S (m_c μ t i sp.toNatClampNeg t' i' dp.toNatClampNeg n.toNatClampNeg) H1 → va_S (Aw S) H0 H1 locs1 → W p l e R s m args below meth c H1 locs1 cells slots Q (F0 m (pc + 3) ls rest)) : W p l e R s m args below meth c H locs cells slots Q (F0 m pc ls (.int n :: .int dp :: .ref (gA S t' i') :: .int sp :: .ref (gA S t i) :: rest)) := by
  obtain ⟨z, hz⟩ := allP_at hv
  have h1 := wsM_at (S := S) (μ := μ) hz
  rw [wE_i ha (Or.inl rfl)] at h1
  obtain ⟨z', hz'⟩ := allP_at hv'
  have h1' := wsM_at (S := S) (μ := μ) hz'
  rw [wE_i ha' (Or.inl rfl)] at h1'
  have e2 := wsM_set (S := S) (μ := μ) (μ' := m_c μ t i sp.toNatClampNeg t' i' dp.toNatClampNeg n.toNatClampNeg) hz' (fun a b _ hne => wE_congr (fun k' => by
    show _ = if a = t' ∧ b = i' then _ else _
    rw [if_neg (fun e => hne (by rw [e.1, e.2]))]) (fun _ => rfl))
  have e3 : wE S (m_c μ t i sp.toNatClampNeg t' i' dp.toNatClampNeg n.toNatClampNeg) t' i' = .inl (gC S 0, n1, .inl (va_cpy (μ.1 t i) (μ.1 t' i') sp.toNatClampNeg dp.toNatClampNeg n.toNatClampNeg)) := by
    rw [wE_i ha' (Or.inl rfl)]
    have e4 : (m_c μ t i sp.toNatClampNeg t' i' dp.toNatClampNeg n.toNatClampNeg).1 t' i' = va_cpy (μ.1 t i) (μ.1 t' i') sp.toNatClampNeg dp.toNatClampNeg n.toNatClampNeg := by
      funext k'
      show (if t' = t' ∧ i' = i' then _ else _) = _
      rw [if_pos ⟨rfl, rfl⟩]
    rw [e4]
  rw [e3] at e2
  have hl := hgd _ (sf_A he)
  have hnw : nativeFrameWords "java/lang/System" "arraycopy" 5 = 7 := by decide +kernel
  refine va_copyi (ty := .int) hx hb hml hown hl (hgd _ sf_nat) (hgd _ sf_sta) (hgd _ sf_sys) hK hw.1 (wsM_D hj) hS z z' 0 0 h1 h1' rfl rfl rfl hc.1 hc.2.1 hc.2.2.1 hc.2.2.2.1 hc.2.2.2.2 (fun _ _ => rfl) hframes (by rw [hnw]; omega) hdg (fun H1 locs1 hP _ hS1 => kk H1 locs1 ⟨by rw [← e2]; exact hP, fun a b => ?_⟩ hS1)
  show (if 59 = t' ∧ a = i' then _ else μ.1 59 a b) = _
  rw [if_neg (fun z => by have := hv'.1; omega)]
  exact hw.2 a b
end RL
