/-! contracts of the small machine's methods over the machine -/
def Wn (e : Nat × Nat × Nat) : Cond := .methodLinkNest (clC e.1) e.2.1 (nmOf e.2.2) "TableArms"
/-- what the tables say, and stays said -/
def KU (S : sG) (U : State) : Prop := va_K (gD S) clL (tysS S) U ∧ (∀ e ∈ kN, va_Nw (Wn e) U) ∧ ∀ e ∈ kS, vk_R (clC e.1) e.2.1 (nth "" stx (e.2.2 - 60)) (gA S e.2.2 0) U
def strL : List Nat := strs.map List.length
/-- the constants' texts -/
def ZU (S : sG) (U : State) (H : Heap) : Prop := va_Z "java/lang/String" "COMPACT_STRINGS" "Z" (.int 1) (Aw S) U H ∧ ∃ v : Value, (v = .null ∨ ∃ q, v = .ref q) ∧ va_Z "jdk/internal/util/Preconditions" "SIOOBE_FORMATTER" "Ljava/util/function/BiFunction;" v (Aw S) U H
def SU (S : sG) (U : State) (H : Heap) : Prop := vk_S 10 strL strs (fun i => gA S (60 + i) 0) (gV S) (Aw S) U H ∧ ZU S U H
theorem SU.moved {S : sG} {u U : State} {H : Heap} (hvm : u.vm.Alike U.vm) (h : SU S u H) : SU S U H := by
  obtain ⟨h1, h2, v, h3, h4⟩ := h
  exact ⟨h1.moved hvm, h2.moved hvm, v, h3, h4.moved hvm⟩
theorem SU.kept {S : sG} {U : State} {H H1 : Heap} (h : SU S U H) (hq : ∀ a : Nat, a < H.size → ¬ Aw S a → H1[a]? = H[a]?) : SU S U H1 := by
  obtain ⟨h1, h2, v, h3, h4⟩ := h
  exact ⟨h1.kept hq, h2.kept hq, v, h3, h4.kept hq⟩
theorem KU.warm {S : sG} {s U : State} (hW : s.WarmedH U.vm) (h : KU S s) : KU S U := ⟨va_K.moved hW.alike h.1, fun e he => va_Nw.warmM hW (h.2.1 e he), fun e he => vk_R.warm hW (h.2.2 e he)⟩
theorem KU.same {S : sG} {u U : State} (hv : U.vm = u.vm) (h : KU S u) : KU S U := ⟨va_K.moved (by rw [hv]; exact Vm.Alike.refl _) h.1, fun e he => va_Nw.same rfl hv.symm (h.2.1 e he), fun e he => vk_R.same hv (h.2.2 e he)⟩
def rmO (d : Nat) : Room := { frames := d + 4, cells := 0, slots := 0, locals := 64 * (d + 4) }
def wsO (y : Nat) : List Cond := Cond.code (nmOf y) (btOf y) (mxOf y) (rtOf y) :: gd
def PcS (S : sG) (as : List sv) (μ : sM) : Array Value → State → Prop := va_Pc (as.map (mv S)) (fun U => wd S μ U.heap ∧ KU S U ∧ SU S U U.heap)
def QcS (S : sG) (Q : sQ) (rk : Nat) : Array Value → State → Outcome → State → Prop := match rk with
  | 0 => va_Qv (fun u : sM => ∃ v w q, Q v w q u) (fun u t => wd S u t.heap) (Aw S)
  | 1 => va_Qi (fun r (u : sM) => ∃ w q, Q r w q u) (fun u t => wd S u t.heap) (Aw S)
  | 2 => va_Ql (fun r (u : sM) => ∃ v q, Q v r q u) (fun u t => wd S u t.heap) (Aw S)
  | _ => va_Qr (fun u : sM × (Nat × Nat) => (∃ v w, Q v w u.2 u.1) ∧ vT u.2.1 u.2.2) (fun u a t => a = gA S u.2.1 u.2.2 ∧ wd S u.1 t.heap) (Aw S)
def MetS (S : sG) (l : Launch) (d y : Nat) (as : List sv) (μ : sM) (Q : sQ) : Prop := Met l (nmOf y) (wsO y) (rmO d) (PcS S as μ) (QcS S Q (rkT (rtOf y))) 0 0 (Aw S)
theorem PcS_blind {S : sG} {as : List sv} {μ : sM} : FrameBlind (PcS S as μ) := by
  intro a U g mk q
  obtain ⟨q0, q1, q2, q3⟩ := q
  exact ⟨q0, q1, KU.same (u := U) rfl q2, SU.moved (u := U) (Vm.Alike.refl U.vm) q3⟩
theorem gd_in {x y : Nat} (hy : y < 253) : GoodIn (wsO x) (wsO y) := by
  intro w hw
  rcases List.mem_cons.mp hw with rfl | h
  · exact ⟨List.mem_cons_of_mem _ (cw_all hy), good_of_word (gd_good (cw_all hy))⟩
  · exact ⟨List.mem_cons_of_mem _ h, good_of_word (gd_good h)⟩
theorem gd_in0 {y : Nat} (hy : y < 253) : GoodIn gd (wsO y) := by
  intro w hw
  rcases List.mem_cons.mp hw with rfl | h
  · exact ⟨cw_all hy, good_of_word (gd_good (cw_all hy))⟩
  · exact ⟨h, good_of_word (gd_good h)⟩
/-- what is known of a method's name -/
theorem okM_spec {y : Nat} (hy : y < 253) : Cond.initialized (nmOf y).cls ∈ gd ∧ (isOf y = 1 → Cond.instanceMethod (nmOf y) ∈ gd ∧ Cond.selects (nmOf y).cls (nmOf y) (nmOf y) ∈ gd) ∧ (isOf y = 0 → Cond.static (nmOf y) ∈ gd) ∧ plainName (nmOf y).cls = true ∧ ((nmOf y).cls ≠ "java/lang/invoke/MethodHandle" ∧ (nmOf y).cls ≠ "java/lang/invoke/VarHandle") ∧ (parseMethodDescriptor (nmOf y).desc).map (fun d => d.parameters.length) = some (npOf y) ∧ clC (owOf y) = (nmOf y).cls ∧ mxOf y < 40 := by
  have h := okM_all hy
  unfold okM at h
  dsimp only at h
  simp only [Bool.and_eq_true, decide_eq_true_eq] at h
  obtain ⟨⟨⟨⟨⟨⟨h1, h2⟩, h3⟩, h4⟩, h5⟩, h6⟩, h7⟩ := h
  refine ⟨wAt_gd h1, fun hi => ?_, fun hi => ?_, h3, h4, h5, h6, Nat.le_of_ble_eq_true h7⟩
  · rw [hi] at h2
    have h2 : (wAt _ (Cond.instanceMethod (nmOf y)) && wAt _ (Cond.selects (nmOf y).cls (nmOf y) (nmOf y))) = true := h2
    rw [Bool.and_eq_true] at h2
    exact ⟨wAt_gd h2.1, wAt_gd h2.2⟩
  · rw [hi] at h2
    exact wAt_gd (h2 : wAt _ (Cond.static (nmOf y)) = true)
theorem ow_ob : (List.range 253).all (fun y => Nat.beq (isOf y) 0 || decide (owOf y ∈ obT)) = true := by decide +kernel
theorem ow_lt {y : Nat} (hy : y < 253) (hi : isOf y = 1) : owOf y ∈ obT := by
  have h := List.all_eq_true.mp ow_ob y (List.mem_range.mpr hy)
  rw [hi] at h
  simpa using h
theorem ob_lt : ∀ t ∈ obT, t < 59 ∧ 0 < (nth [] shp t).length := by decide +kernel
def rtv (S : sG) (rk : Nat) (v : Int32) (w : Int64) (q : Nat × Nat) : List Value := match rk with
  | 0 => []
  | 1 => [.int v]
  | 2 => [.long w]
  | _ => [.ref (gA S q.1 q.2)]
theorem ctS_eq {S : sG} : ∀ (r : List sv), ((r.map (mv S)).map fun v => v.category).sum = ctS r
  | [] => rfl
  | v :: r => by
    rw [List.map_cons, List.map_cons, List.sum_cons, ctS_eq r]
    rcases v with x | x | ⟨t, i⟩ <;> rfl
section CL
variable {p : Program} {l : Launch} {e : Env} {R : Room} {s : State} {m : MethodId} {args : Array Value} {below : List Frame} {meth : Method} {c : Code} {H : Heap} {locs : List Loc} {ce sl : Nat} {ZZ : State → Prop}
variable {cc : ByteArray} {pc nL : Nat} {A : Array Slot} {S : sG} {μ : sM} {own idx z d : Nat} {as r : List sv} {Q' : sQ}
theorem r_tail {rk : Nat} {st0 rest : List Value} {av : Array Value} (hr : va_Run p l e R s m args below meth c H locs ce sl 0 0 (F0 m pc A st0) rest (QcS S Q' rk av) (Aw S)) (hS : va_S (Aw S) s.heap H locs)
    (kk : ∀ (v : Int32) (w : Int64) (q : Nat × Nat) (μ' : sM) (H1 : Heap) (locs1 : List Loc), Q' v w q μ' → (3 ≤ rk → vT q.1 q.2) → wd S μ' H1 → va_S (Aw S) s.heap H1 locs1 → W p l e R s m args below meth c H1 locs1 ce sl ZZ (F0 m (pc + 3) A (rtv S rk v w q ++ rest))) : W p l e R s m args below meth c H locs ce sl ZZ (F0 m pc A st0) := by
  match rk, hr, kk with
  | 0, hr, kk =>
    refine va_callv (a := av) hr hS (fun _ _ h => h) (fun _ h => h) (fun u t H1 locs1 ht _ hq hB _ _ hS1 => ?_)
    obtain ⟨v, w, q, hq⟩ := hq
    exact kk v w q u H1 locs1 hq (fun h => absurd h (by omega)) (by rw [← ht]; exact hB) hS1
  | 1, hr, kk =>
    refine va_calli (a := av) hr hS (fun _ _ h => h) (fun _ h => h) (fun v u t H1 locs1 ht _ hq hB _ _ hS1 => ?_)
    obtain ⟨w, q, hq⟩ := hq
    exact kk v w q u H1 locs1 hq (fun h => absurd h (by omega)) (by rw [← ht]; exact hB) hS1
  | 2, hr, kk =>
    refine va_calll (a := av) hr hS (fun _ _ h => h) (fun _ h => h) (fun w u t H1 locs1 ht _ hq hB _ _ hS1 => ?_)
    obtain ⟨v, q, hq⟩ := hq
    exact kk v w q u H1 locs1 hq (fun h => absurd h (by omega)) (by rw [← ht]; exact hB) hS1
  | n + 3, hr, kk =>
    refine va_callr (a := av) hr hS (fun _ _ h => h) (fun _ h => h) (fun u ra t H1 locs1 ht _ hq hB _ _ hS1 => ?_)
    obtain ⟨μ', q⟩ := u
    obtain ⟨⟨v, w, hq⟩, hv⟩ := hq
    obtain ⟨rfl, hB⟩ := hB
    exact kk v w q μ' H1 locs1 hq (fun _ => hv) (by rw [← ht]; exact hB) hS1
/-- a call, whichever way it is written -/
theorem r_call (hx : p.tables.exec = Jvm.exec) (hb : c.code = cc) (hml : c.maxLocals = nL) (hA : A.size = nL) (hgd : ∀ w ∈ gd, w.before args s = true) (hown : s.vm.findClass (clC own) = some m.cls) (hKU : KU S s) (hSU : SU S s s.heap) (hw : wd S μ H) (hS : va_S (Aw S) s.heap H locs)
    (hz : z < 253) (hM : MetS S l d z as μ Q') (hR : d + 5 ≤ R.frames ∧ 64 * (d + 5) ≤ R.locals) (hcs : ce ≤ R.cells ∧ sl ≤ R.slots) (hr8 : ctS r ≤ 8)
    (hk : (isOf z = 1 ∧ (own, idx, z) ∈ kM ∧ as.length = npOf z + 1 ∧ (∃ i as', as = sR (owOf z) i :: as' ∧ vT (owOf z) i) ∧ decode cc pc = .ok (.invokevirtual idx, 3)) ∨ (isOf z = 0 ∧ ((own, idx, z) ∈ kM ∨ (own, idx, z) ∈ kN) ∧ as.length = npOf z ∧ decode cc pc = .ok (.invokestatic idx, 3)))
    (kk : ∀ (v : Int32) (w : Int64) (q : Nat × Nat) (μ' : sM) (H1 : Heap) (locs1 : List Loc), Q' v w q μ' → (3 ≤ rkT (rtOf z) → vT q.1 q.2) → wd S μ' H1 → va_S (Aw S) s.heap H1 locs1 → W p l e R s m args below meth c H1 locs1 ce sl ZZ (F0 m (pc + 3) A (rtv S (rkT (rtOf z)) v w q ++ r.map (mv S)))) : W p l e R s m args below meth c H locs ce sl ZZ (F0 m pc A ((as.reverse ++ r).map (mv S))) := by
  obtain ⟨hi, hinst, hstat, -, hh, hdesc, -, hmx⟩ := okM_spec hz
  have hcat : ((r.map (mv S)).map fun v => v.category).sum ≤ 8 := by rw [ctS_eq]; exact hr8
  have hroom : (rmO d).frames + 1 ≤ R.frames ∧ 8 + (mxOf z + 11) + (rmO d).locals ≤ R.locals := ⟨hR.1, by show 8 + (mxOf z + 11) + 64 * (d + 4) ≤ _; omega⟩
  have hpre : ∀ U : State, U.heap = H → s.WarmedH U.vm → PcS S as μ (as.map (mv S)).toArray U := fun U hU hW => ⟨rfl, by rw [hU]; exact hw, hKU.warm hW, by rw [hU]; exact SU.moved hW.alike (SU.kept hSU hS.2.1)⟩
  rcases hk with ⟨h1, h2, h3, ⟨i, as', rfl, hv⟩, h5⟩ | ⟨h1, h2, h3, h5⟩
  · obtain ⟨hI, hSel⟩ := hinst h1
    have hb' : CallB R s args (clC own) idx (nmOf z) (btOf z) (mxOf z) (rtOf z) (wsO z) (rmO d) 0 0 (npOf z) := callB_of (npOf z) hgd (gd_in0 hz) rfl rfl rfl (hgd _ hi) (hgd _ (sf_M h2)) ⟨hh.1, hh.2, hdesc⟩ hroom
    have ht := ow_lt hz h1
    obtain ⟨k, hk⟩ := allP_at hv
    have e1 := wsM_at (S := S) (μ := μ) hk
    rw [wE_ob ht] at e1
    have hrecv := va_recv hKU.1 hw.1 (cl_at _ ht) e1
    have hcl : clC (owOf z) = (nmOf z).cls := (okM_spec hz).2.2.2.2.2.2.1
    have hst : (((sR (owOf z) i :: as').reverse ++ r).map (mv S)) = (as'.map (mv S)).reverse ++ .ref (gA S (owOf z) i) :: r.map (mv S) := by
      rw [List.reverse_cons, List.map_append, List.map_append, List.map_reverse, List.append_assoc]; rfl
    rw [hst]
    exact r_tail (va_runV (As := as'.map (mv S)) (rest := r.map (mv S)) (C := (nmOf z).cls) (n := npOf z) ⟨hx, hb, hml, hown, hgd⟩ hM ⟨hb', hgd _ hI, hgd _ hSel⟩ ⟨PcS_blind, by rw [← hcl]; exact hrecv, hpre⟩ rfl (by rw [List.length_map]; simpa using h3) hA rfl (lv_room hcat) h5 ⟨by omega, by omega⟩) hS kk
  · have hS' := hstat h1
    have hst : ((as.reverse ++ r).map (mv S)) = (as.map (mv S)).reverse ++ r.map (mv S) := by
      rw [List.map_append, List.map_reverse]
    rw [hst]
    rcases h2 with h2 | h2
    · have hb' : CallB R s args (clC own) idx (nmOf z) (btOf z) (mxOf z) (rtOf z) (wsO z) (rmO d) 0 0 (npOf z) := callB_of (npOf z) hgd (gd_in0 hz) rfl rfl rfl (hgd _ hi) (hgd _ (sf_M h2)) ⟨hh.1, hh.2, hdesc⟩ hroom
      exact r_tail (va_runS (As := as.map (mv S)) (rest := r.map (mv S)) (n := npOf z) ⟨hx, hb, hml, hown, hgd⟩ hM ⟨hb', hgd _ hS'⟩ ⟨PcS_blind, hpre⟩ rfl (by rw [List.length_map]; exact h3) hA rfl (lv_room hcat) h5 ⟨by omega, by omega⟩) hS kk
    · have hb' := va_cnB (R := R) (own := clC own) (host := "TableArms") (index := idx) (y := nmOf z) (bytes := btOf z) (maxL := mxOf z) (ret := rtOf z) (rm := rmO d) (mc := 0) (ms := 0) (npOf z) hgd (gd_in0 hz) rfl rfl rfl (hKU.2.1 _ h2) (hgd _ hi) ⟨hh.1, hh.2, hdesc⟩ hroom
      exact r_tail (va_runSN (As := as.map (mv S)) (rest := r.map (mv S)) (n := npOf z) ⟨hx, hb, hml, hown, hgd⟩ hM ⟨hb', hgd _ hS', trivial⟩ ⟨PcS_blind, hpre⟩ rfl (by rw [List.length_map]; exact h3) hA rfl (lv_room hcat) h5 ⟨by omega, by omega⟩) hS kk
end CL
