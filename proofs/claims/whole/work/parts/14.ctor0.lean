theorem ac_int : Cond.arrayClass .int ∈ gd := wAt_gd (i := 133) (by decide +kernel)
theorem ac_byte : Cond.arrayClass .byte ∈ gd := wAt_gd (i := 341) (by decide +kernel)
theorem ac_bool : Cond.arrayClass .boolean ∈ gd := wAt_gd (i := 281) (by decide +kernel)
theorem ac_long : Cond.arrayClass .long ∈ gd := wAt_gd (i := 243) (by decide +kernel)
/-! making the objects: what the constructors share -/
def tysC (cy : Nat → ClassId) : List (ClassId × FieldType) := [(cy 0, .int), (cy 1, .byte), (cy 2, .boolean), (cy 3, .long), (cy 4, .object "TableArms$Table")]
def yK_Stock : MethodName := ⟨"TableArms$Stock", "<init>", "()V"⟩
def yK_Crossing : MethodName := ⟨"TableArms$Crossing", "<init>", "()V"⟩
def KC (D : va_G) (cy : Nat → ClassId) (U : State) : Prop := va_K D clL (tysC cy) U ∧ va_Nw (.methodLinkNest "TableArms" 18 yK_Stock "TableArms") U ∧ va_Nw (.methodLinkNest "TableArms" 82 yK_Crossing "TableArms") U ∧ va_AO "TableArms$Table" U
theorem KC.warm {D : va_G} {cy : Nat → ClassId} {s U : State} (hW : s.WarmedH U.vm) (h : KC D cy s) : KC D cy U := ⟨va_K.moved hW.alike h.1, va_Nw.warmM hW h.2.1, va_Nw.warmM hW h.2.2.1, va_AO.moved hW.alike h.2.2.2⟩
theorem KC.same {D : va_G} {cy : Nat → ClassId} {u U : State} (hv : U.vm = u.vm) (h : KC D cy u) : KC D cy U := ⟨va_K.moved (by rw [hv]; exact Vm.Alike.refl _) h.1, va_Nw.same rfl hv.symm h.2.1, va_Nw.same rfl hv.symm h.2.2.1, va_AO.moved (by rw [hv]; exact Vm.Alike.refl _) h.2.2.2⟩
def PcK (D : va_G) (cy : Nat → ClassId) (ws : va_W) (sz : Nat) (av : List Value) : Array Value → State → Prop := va_Pc av (fun U => U.heap.size = sz ∧ va_P D clL ws U.heap ∧ KC D cy U ∧ va_D (fun _ => True) ws)
def QvK (D : va_G) (ws : va_W) (sz : Nat) (post : va_W → Prop) : Array Value → State → Outcome → State → Prop := va_Qv post (fun u t => va_P D clL u t.heap ∧ va_D (va_A ws sz) u) (va_A ws sz)
theorem PcK_blind {D : va_G} {cy : Nat → ClassId} {ws : va_W} {sz : Nat} {av : List Value} : FrameBlind (PcK D cy ws sz av) := by
  intro a U g mk q
  obtain ⟨q0, q1, q2, q3, q4⟩ := q
  exact ⟨q0, q1, q2, KC.same (u := U) rfl q3, q4⟩
section KR
variable {p : Program} {l : Launch} {e : Env} {R : Room} {s : State} {m : MethodId} {args : Array Value} {below : List Frame} {meth : Method} {c : Code} {H : Heap} {locs : List Loc} {cells slots : Nat} {Q : State → Prop}
variable {cc : ByteArray} {pc : Nat} {ls : Array Slot} {rest : List Value} {D : va_G} {cy : Nat → ClassId} {A : Nat → Prop} {ws : va_W} {H0 : Heap}
theorem cA_eq {ty : FieldType} {c1 c2 : ClassId} (hp : ∀ C, ty ≠ .object C) (h1 : va_RA s c1 ty) (h2 : va_RA s c2 ty) : c1 = c2 := by
  cases ty with
  | object C => exact absurd rfl (hp C)
  | _ => exact Option.some.inj (h1.symm.trans h2)
theorem cA_eqO {C : String} {c1 c2 : ClassId} (h1 : va_RA s c1 (.object C)) (h2 : va_RA s c2 (.object C)) : c1 = c2 := by
  obtain ⟨_, _, _, _, _, q1⟩ := h1
  obtain ⟨_, _, _, _, _, q2⟩ := h2
  exact Option.some.inj (q1.symm.trans q2)
theorem k_newI (hx : p.tables.exec = Jvm.exec) (hb : c.code = cc) (hgd : ∀ w ∈ gd, w.before args s = true) (hK : va_K D clL (tysC cy) s) (hP : va_P D clL ws H) (hD : va_D A ws) (hS : va_S A H0 H locs) (hA : ∀ q, H0.size ≤ q → A q) {n : Int32} {N : Nat} (hn : ¬ n < 0) (hN : n.toNatClampNeg = N) (hN2 : N ≤ 100000) (hcells : cells + 1 ≤ R.cells) (hslots : slots + N ≤ R.slots) (hdg : decode cc pc = .ok (.newarray .int, 2))
    (kk : ∀ (q : Nat) (H1 : Heap), va_P D clL (ws ++ [(q, .inl (cy 0, N, .inl (fun _ => 0)))]) H1 → va_D A (ws ++ [(q, .inl (cy 0, N, .inl (fun _ => 0)))]) → va_S A H0 H1 locs → W p l e R s m args below meth c H1 locs (cells + 1) (slots + N) Q (F0 m (pc + 2) ls (.ref q :: rest))) : W p l e R s m args below meth c H locs cells slots Q (F0 m pc ls (.int n :: rest)) := by
  refine va_newa (a0 := (N, .inl (fun _ => 0))) (atype := .int) hx hb (hgd _ ac_int) rfl hK hP hD hS hA (fun _ => rfl) hn hN (by show N * 4 ≤ _; omega) hcells hslots hdg (fun q cA H1 hK1 hP1 hD1 hS1 => ?_)
  obtain rfl : cA = cy 0 := cA_eq (fun C => by simp) (hK1.2 5 (cA, .int) rfl).2 (hK.2 0 (cy 0, .int) rfl).2
  exact kk q H1 hP1 hD1 hS1
theorem k_newB (hx : p.tables.exec = Jvm.exec) (hb : c.code = cc) (hgd : ∀ w ∈ gd, w.before args s = true) (hK : va_K D clL (tysC cy) s) (hP : va_P D clL ws H) (hD : va_D A ws) (hS : va_S A H0 H locs) (hA : ∀ q, H0.size ≤ q → A q) {n : Int32} {N : Nat} (hn : ¬ n < 0) (hN : n.toNatClampNeg = N) (hN2 : N ≤ 100000) (hcells : cells + 1 ≤ R.cells) (hslots : slots + N ≤ R.slots) (hdg : decode cc pc = .ok (.newarray .byte, 2))
    (kk : ∀ (q : Nat) (H1 : Heap), va_P D clL (ws ++ [(q, .inl (cy 1, N, .inl (fun _ => 0)))]) H1 → va_D A (ws ++ [(q, .inl (cy 1, N, .inl (fun _ => 0)))]) → va_S A H0 H1 locs → W p l e R s m args below meth c H1 locs (cells + 1) (slots + N) Q (F0 m (pc + 2) ls (.ref q :: rest))) : W p l e R s m args below meth c H locs cells slots Q (F0 m pc ls (.int n :: rest)) := by
  refine va_newa (a0 := (N, .inl (fun _ => 0))) (atype := .byte) hx hb (hgd _ ac_byte) rfl hK hP hD hS hA (fun _ => rfl) hn hN (by show N * 1 ≤ _; omega) hcells hslots hdg (fun q cA H1 hK1 hP1 hD1 hS1 => ?_)
  obtain rfl : cA = cy 1 := cA_eq (fun C => by simp) (hK1.2 5 (cA, .byte) rfl).2 (hK.2 1 (cy 1, .byte) rfl).2
  exact kk q H1 hP1 hD1 hS1
theorem k_newZ (hx : p.tables.exec = Jvm.exec) (hb : c.code = cc) (hgd : ∀ w ∈ gd, w.before args s = true) (hK : va_K D clL (tysC cy) s) (hP : va_P D clL ws H) (hD : va_D A ws) (hS : va_S A H0 H locs) (hA : ∀ q, H0.size ≤ q → A q) {n : Int32} {N : Nat} (hn : ¬ n < 0) (hN : n.toNatClampNeg = N) (hN2 : N ≤ 100000) (hcells : cells + 1 ≤ R.cells) (hslots : slots + N ≤ R.slots) (hdg : decode cc pc = .ok (.newarray .boolean, 2))
    (kk : ∀ (q : Nat) (H1 : Heap), va_P D clL (ws ++ [(q, .inl (cy 2, N, .inl (fun _ => 0)))]) H1 → va_D A (ws ++ [(q, .inl (cy 2, N, .inl (fun _ => 0)))]) → va_S A H0 H1 locs → W p l e R s m args below meth c H1 locs (cells + 1) (slots + N) Q (F0 m (pc + 2) ls (.ref q :: rest))) : W p l e R s m args below meth c H locs cells slots Q (F0 m pc ls (.int n :: rest)) := by
  refine va_newa (a0 := (N, .inl (fun _ => 0))) (atype := .boolean) hx hb (hgd _ ac_bool) rfl hK hP hD hS hA (fun _ => rfl) hn hN (by show N * 1 ≤ _; omega) hcells hslots hdg (fun q cA H1 hK1 hP1 hD1 hS1 => ?_)
  obtain rfl : cA = cy 2 := cA_eq (fun C => by simp) (hK1.2 5 (cA, .boolean) rfl).2 (hK.2 2 (cy 2, .boolean) rfl).2
  exact kk q H1 hP1 hD1 hS1
theorem k_newJ (hx : p.tables.exec = Jvm.exec) (hb : c.code = cc) (hgd : ∀ w ∈ gd, w.before args s = true) (hK : va_K D clL (tysC cy) s) (hP : va_P D clL ws H) (hD : va_D A ws) (hS : va_S A H0 H locs) (hA : ∀ q, H0.size ≤ q → A q) {n : Int32} {N : Nat} (hn : ¬ n < 0) (hN : n.toNatClampNeg = N) (hN2 : N ≤ 100000) (hcells : cells + 1 ≤ R.cells) (hslots : slots + N ≤ R.slots) (hdg : decode cc pc = .ok (.newarray .long, 2))
    (kk : ∀ (q : Nat) (H1 : Heap), va_P D clL (ws ++ [(q, .inl (cy 3, N, .inr (.inl (fun _ => 0))))]) H1 → va_D A (ws ++ [(q, .inl (cy 3, N, .inr (.inl (fun _ => 0))))]) → va_S A H0 H1 locs → W p l e R s m args below meth c H1 locs (cells + 1) (slots + N) Q (F0 m (pc + 2) ls (.ref q :: rest))) : W p l e R s m args below meth c H locs cells slots Q (F0 m pc ls (.int n :: rest)) := by
  refine va_newa (a0 := (N, .inr (.inl (fun _ => 0)))) (atype := .long) hx hb (hgd _ ac_long) rfl hK hP hD hS hA (fun _ => rfl) hn hN (by show N * 8 ≤ _; omega) hcells hslots hdg (fun q cA H1 hK1 hP1 hD1 hS1 => ?_)
  obtain rfl : cA = cy 3 := cA_eq (fun C => by simp) (hK1.2 5 (cA, .long) rfl).2 (hK.2 3 (cy 3, .long) rfl).2
  exact kk q H1 hP1 hD1 hS1
/-- what a constructor made comes behind the caller's cells -/
theorem k_join {q : Nat} {e0 : va_E} {u : va_W} {H1 : Heap} (hP : va_P D clL (ws ++ [(q, e0)]) H) (hD : va_D A (ws ++ [(q, e0)])) (hk : ∀ x : Nat, x < H.size → ¬ va_A [(q, e0)] H.size x → H1[x]? = H[x]?) (hF : ∀ x, va_A [(q, e0)] H.size x → A x) (hP1 : va_P D clL u H1) (hD1 : va_D (va_A [(q, e0)] H.size) u) : va_P D clL (ws ++ u) H1 ∧ va_D A (ws ++ u) := by
  have hat : ∀ (k : Nat) (x : Nat × va_E), ws[k]? = some x → (ws ++ [(q, e0)])[k]? = some x := fun k x hx => by
    rw [List.getElem?_append_left (List.getElem?_eq_some_iff.mp hx).1]; exact hx
  have hlast : (ws ++ [(q, e0)])[ws.length]? = some (q, e0) := by simp
  have apart : ∀ (k : Nat) (x : Nat × va_E), ws[k]? = some x → x.1 < H.size ∧ ¬ va_A [(q, e0)] H.size x.1 := fun k x hx => by
    have hl := (hP k x (hat k x hx)).lt
    refine ⟨hl, fun z => ?_⟩
    rcases z with ⟨k2, e2, z⟩ | z
    · have hk2 : k2 = 0 := by
        have := (List.getElem?_eq_some_iff.mp z).1
        simpa using this
      subst hk2
      have e3 : x.1 = q := by simp at z; exact z.1.symm
      have := hD.1 k ws.length x (q, e0) (hat k x hx) hlast e3
      have h5 := (List.getElem?_eq_some_iff.mp hx).1
      omega
    · omega
  refine ⟨va_P.app (fun k x hx => ?_) hP1, va_D.app ⟨fun i j x y hx hy hxy => hD.1 i j x y (hat i x hx) (hat j y hy) hxy, fun k x hx => hD.2 k x (hat k x hx)⟩ (hD1.weaken (fun k x _ h => hF x.1 h)) (fun i j x y hx hy hxy => ?_)⟩
  · obtain ⟨g1, g2⟩ := apart k x hx
    exact (hP k x (hat k x hx)).kept (hk x.1 g1 g2)
  · exact (apart i x hx).2 (by rw [hxy]; exact hD1.2 j y hy)
theorem k_free {q : Nat} {e0 : va_E} (hD : va_D A (ws ++ [(q, e0)])) (hS : va_S A H0 H locs) (hA : ∀ x, H0.size ≤ x → A x) : ∀ x, va_A [(q, e0)] H.size x → A x := va_free (wc := [(q, e0)]) hD hS hA [ws.length] (by simp)
/-- a constructor is called on the cell that was made last -/
theorem k_ctor {y : MethodName} {bytes : ByteArray} {maxL nL mc ms n index : Nat} {wy : List Cond} {rm : Room} {own : String} {q : Nat} {e0 : va_E} {As : List Value} {post : va_W → Prop} (CF : CallFix p m c cc nL s args gd own) (hKC : KC D cy s)
    (hM : Met l y wy rm (PcK D cy [(q, e0)] H.size (.ref q :: As)) (QvK D [(q, e0)] H.size post) mc ms (va_A [(q, e0)] H.size)) (cw : CallB R s args own index y bytes maxL none wy rm mc ms n ∧ y.name = "<init>" ∧ (Cond.instanceMethod y).before args s = true)
    (hP : va_P D clL (ws ++ [(q, e0)]) H) (hD : va_D A (ws ++ [(q, e0)])) (hS : va_S A s.heap H locs) (hA : ∀ x, s.heap.size ≤ x → A x) (hn : As.length = n) (hsize : ls.size = nL) (hW : (rest.map fun v => v.category).sum ≤ 8) (hdg : decode cc pc = .ok (.invokespecial index, 3)) (hf : cells + mc ≤ R.cells ∧ slots + ms ≤ R.slots)
    (kk : ∀ (u : va_W) (H1 : Heap) (locs1 : List Loc), post u → va_P D clL (ws ++ u) H1 → va_D A (ws ++ u) → va_S A s.heap H1 locs1 → W p l e R s m args below meth c H1 locs1 (cells + mc) (slots + ms) Q (F0 m (pc + 3) ls rest)) : W p l e R s m args below meth c H locs cells slots Q (F0 m pc ls (As.reverse ++ .ref q :: rest)) := by
  have hFc := k_free hD hS hA
  have hPc : va_P D clL [(q, e0)] H := fun k x hx => hP (ws.length + k) x (by rw [List.getElem?_append_right (by omega), Nat.add_sub_cancel_left]; exact hx)
  have hDc : va_D (fun _ => True) [(q, e0)] := ⟨fun i j x y hx hy _ => by
    have h1 := (List.getElem?_eq_some_iff.mp hx).1
    have h2 := (List.getElem?_eq_some_iff.mp hy).1
    simp at h1 h2
    omega, fun _ _ _ => trivial⟩
  refine va_callv (a := (Value.ref q :: As).toArray) (va_runI (As := As) (rest := rest) CF hM cw ⟨PcK_blind, fun U hU hW' => ⟨rfl, by rw [hU], by rw [hU]; exact hPc, hKC.warm hW', hDc⟩⟩ rfl hn hsize rfl (lv_room hW) hdg hf) hS (fun x _ h => hFc x h) hFc (fun u t H1 locs1 ht hvm hw hB hz1 hk1 hS1 => ?_)
  obtain ⟨hP1, hD1⟩ := hB
  rw [ht] at hP1
  obtain ⟨g1, g2⟩ := k_join hP hD hk1 hFc hP1 hD1
  exact kk u H1 locs1 hw g1 g2 hS1
/-- the same, of a nest mate's private constructor -/
theorem k_ctorN {y : MethodName} {bytes : ByteArray} {maxL nL mc ms n index : Nat} {wy : List Cond} {rm : Room} {own host : String} {q : Nat} {e0 : va_E} {As : List Value} {post : va_W → Prop} (CF : CallFix p m c cc nL s args gd own) (hKC : KC D cy s)
    (hM : Met l y wy rm (PcK D cy [(q, e0)] H.size (.ref q :: As)) (QvK D [(q, e0)] H.size post) mc ms (va_A [(q, e0)] H.size)) (cw : va_CN R s args own index y host bytes maxL none wy rm mc ms n ∧ y.name = "<init>" ∧ (Cond.instanceMethod y).before args s = true)
    (hP : va_P D clL (ws ++ [(q, e0)]) H) (hD : va_D A (ws ++ [(q, e0)])) (hS : va_S A s.heap H locs) (hA : ∀ x, s.heap.size ≤ x → A x) (hn : As.length = n) (hsize : ls.size = nL) (hW : (rest.map fun v => v.category).sum ≤ 8) (hdg : decode cc pc = .ok (.invokespecial index, 3)) (hf : cells + mc ≤ R.cells ∧ slots + ms ≤ R.slots)
    (kk : ∀ (u : va_W) (H1 : Heap) (locs1 : List Loc), post u → va_P D clL (ws ++ u) H1 → va_D A (ws ++ u) → va_S A s.heap H1 locs1 → W p l e R s m args below meth c H1 locs1 (cells + mc) (slots + ms) Q (F0 m (pc + 3) ls rest)) : W p l e R s m args below meth c H locs cells slots Q (F0 m pc ls (As.reverse ++ .ref q :: rest)) := by
  have hFc := k_free hD hS hA
  have hPc : va_P D clL [(q, e0)] H := fun k x hx => hP (ws.length + k) x (by rw [List.getElem?_append_right (by omega), Nat.add_sub_cancel_left]; exact hx)
  have hDc : va_D (fun _ => True) [(q, e0)] := ⟨fun i j x y hx hy _ => by
    have h1 := (List.getElem?_eq_some_iff.mp hx).1
    have h2 := (List.getElem?_eq_some_iff.mp hy).1
    simp at h1 h2
    omega, fun _ _ _ => trivial⟩
  refine va_callv (a := (Value.ref q :: As).toArray) (va_runIN (As := As) (rest := rest) CF hM cw ⟨PcK_blind, fun U hU hW' => ⟨rfl, by rw [hU], by rw [hU]; exact hPc, hKC.warm hW', hDc⟩⟩ rfl hn hsize rfl (lv_room hW) hdg hf) hS (fun x _ h => hFc x h) hFc (fun u t H1 locs1 ht hvm hw hB hz1 hk1 hS1 => ?_)
  obtain ⟨hP1, hD1⟩ := hB
  rw [ht] at hP1
  obtain ⟨g1, g2⟩ := k_join hP hD hk1 hFc hP1 hD1
  exact kk u H1 locs1 hw g1 g2 hS1
end KR
/-! Arrays.fill -/
def fl (f : Nat → Int32) (v : Int32) (i : Nat) : Nat → Int32 := fun k => if k < i then v else f k
theorem fl_succ (f : Nat → Int32) (v : Int32) (i : Nat) : upd (fl f v i) i v = fl f v (i + 1) := by
  funext k
  show (if k = i then v else if k < i then v else f k) = if k < i + 1 then v else f k
  by_cases h : k = i
  · rw [if_pos h, if_pos (by omega)]
  · rw [if_neg h]
    by_cases h2 : k < i
    · rw [if_pos h2, if_pos (by omega)]
    · rw [if_neg h2, if_neg (by omega)]
theorem fl_0 (f : Nat → Int32) (v : Int32) : fl f v 0 = f := by
  funext k
  show (if k < 0 then v else f k) = f k
  rw [if_neg (Nat.not_lt_zero _)]
def yK_fill : MethodName := ⟨"java/util/Arrays", "fill", "([II)V"⟩
def wK_fill : List Cond := Cond.code yK_fill prog_21_method_103_code 4 none :: gd
set_option maxRecDepth 100000 in
theorem cK_fill : Cond.code yK_fill prog_21_method_103_code 4 none ∈ gd := List.mem_filter.mpr ⟨List.mem_of_getElem? (i := 122) rfl, rfl⟩
theorem gK_fill : GoodIn gd wK_fill := by
  intro w hw
  rcases List.mem_cons.mp hw with rfl | h
  · exact ⟨cK_fill, good_of_word (gd_good cK_fill)⟩
  · exact ⟨h, good_of_word (gd_good h)⟩
theorem sK_fill : Cond.static yK_fill ∈ gd := wAt_gd (i := 121) (by decide +kernel)
theorem iK_fill : Cond.initialized "java/util/Arrays" ∈ gd := wAt_gd (i := 87) (by decide +kernel)
set_option maxHeartbeats 4000000 in
theorem kc_fill (l : Launch) (D : va_G) (cy : Nat → ClassId) (h0 sz n : Nat) (hn : n ≤ 100000) (f : Nat → Int32) (v : Int32) : Met l yK_fill wK_fill { frames := 0, cells := 0, slots := 0, locals := 0 } (PcK D cy [(h0, .inl (cy 0, n, .inl f))] sz [.ref h0, .int v]) (QvK D [(h0, .inl (cy 0, n, .inl f))] sz (fun u => u = [(h0, .inl (cy 0, n, .inl (fl f v n)))])) 0 0 (va_A [(h0, .inl (cy 0, n, .inl f))] sz) := by
  refine Met.ofW (cc := prog_21_method_103_code) (maxL := 4) (ret := none) (by decide +kernel) rfl ?_
  intro p e s m args below meth c s₁ B hml hv
  obtain ⟨rfl, hsz, hP, hKC, hD0⟩ := hv
  have hx := B.exec
  have hb := B.bytes
  have hr := B.returns
  have hlocks := B.notSynchronized
  have hK := hKC.1
  subst hsz
  have hD := hD0.self (sz := s.heap.size)
  generalize hAe : va_A [(h0, .inl (cy 0, n, .inl f))] s.heap.size = A at hD ⊢
  have hS : va_S A s.heap s.heap [] := va_S.rf
  have hl := lv_entry ([.ref h0, .int v]) (n := 4) (Nat.le_of_ble_eq_true rfl)
  rw [lg_entry_eq]
  generalize (lg_sl ([.ref h0, .int v]) ++ List.replicate (4 - (lg_sl ([.ref h0, .int v])).length) Slot.unset).toArray = ls at hl ⊢
  have hl : lv_has ls 4 [(0, .ref h0), (1, .int v)] := hl
  have loop : ∀ (k i : Nat) (H : Heap) (locs : List Loc) (ls : Array Slot), i ≤ n → n + 1 ≤ i + k → va_P D clL [(h0, .inl (cy 0, n, .inl (fl f v i)))] H → va_D A [(h0, .inl (cy 0, n, .inl (fl f v i)))] → va_S A s.heap H locs → lv_has ls 4 [(0, .ref h0), (1, .int v), (2, .int (nI i)), (3, .int (nI n))] →
      W p l e (headSpec wK_fill { frames := 0, cells := 0, slots := 0, locals := 0 }).room s m ([.ref h0, .int v] : List Value).toArray below meth c H locs 0 0 (MQ below (QvK D [(h0, .inl (cy 0, n, .inl f))] s.heap.size (fun u => u = [(h0, .inl (cy 0, n, .inl (fl f v n)))])) ([.ref h0, .int v] : List Value).toArray s 0 0 A) (F0 m 5 ls []) := by
    intro k
    induction k with
    | zero => intro i H locs ls h1 h2; omega
    | succ k ih =>
      intro i H locs ls h1 h2 hP hD hS hl
      refine lv_iload_n hx hb (by decide +kernel : decode prog_21_method_103_code 5 = .ok (.iload_n 2, 1)) rfl (lv_at hl 2 rfl) ?_
      refine lv_iload_n hx hb (by decide +kernel : decode prog_21_method_103_code 6 = .ok (.iload_n 3, 1)) rfl (lv_at hl 3 rfl) ?_
      refine lv_icmp_ge (tgt := 20) hx hb (by decide +kernel : decode prog_21_method_103_code 7 = .ok (.if_icmp .ge 13, 3)) (by decide) (fun c1 => ?_) (fun c1 => ?_)
      · have e : i = n := by
          have := (nI_leI (a := n) (b := i) (by omega) (by omega)).mp c1
          omega
        subst e
        refine W.vret hx hb hr (fun t ht hW => ⟨⟨_, rfl, rfl, by show va_P D clL _ t.heap; rw [ht]; exact hP, by rw [hAe]; exact hD⟩, by rw [hAe]; exact hS.F ht⟩) hS.2.2 (by decide +kernel : decode prog_21_method_103_code 20 = .ok (.return_, 1))
      · have hlt : i < n := by
          rcases Nat.lt_or_ge i n with q | q
          · exact q
          · exact absurd (nI_le q (by omega)) c1
        refine lv_aload_n hx hb (by decide +kernel : decode prog_21_method_103_code 10 = .ok (.aload_n 0, 1)) rfl (lv_at hl 0 rfl) ?_
        refine lv_iload_n hx hb (by decide +kernel : decode prog_21_method_103_code 11 = .ok (.iload_n 2, 1)) rfl (lv_at hl 2 rfl) ?_
        refine lv_iload_n hx hb (by decide +kernel : decode prog_21_method_103_code 12 = .ok (.iload_n 1, 1)) rfl (lv_at hl 1 rfl) ?_
        refine va_iast (D := D) (cl := clL) (tys := tysC cy) hx hb hK hP hD hS 0 0 rfl rfl (vp_in_nI hlt (by omega)) (by decide +kernel : decode prog_21_method_103_code 13 = .ok (.iastore, 1)) (fun H1 locs1 hP hD hS => ?_)
        have hc : (nI i).toNatClampNeg = i := nI_clamp (by omega)
        have hP : va_P D clL [(h0, .inl (cy 0, n, .inl (upd (fl f v i) (nI i).toNatClampNeg v)))] H1 := hP
        have hD : va_D A [(h0, .inl (cy 0, n, .inl (upd (fl f v i) (nI i).toNatClampNeg v)))] := hD
        rw [hc, fl_succ] at hP hD
        refine lv_iinc (k := 2) (v := nI (i + 1)) (lv' := [(2, .int (nI (i + 1))), (0, .ref h0), (1, .int v), (3, .int (nI n))]) hx hb (by decide +kernel : decode prog_21_method_103_code 14 = .ok (.iinc 2 1, 3)) hl rfl (nI_1 i) (by decide) rfl (fun ls hl => ?_)
        refine lv_goto (tgt := 5) hx hb (by decide +kernel : decode prog_21_method_103_code 17 = .ok (.goto (-12), 3)) (by decide) ?_
        exact ih (i + 1) H1 locs1 ls hlt (by omega) hP hD hS (lv_sub hl [1, 2, 0, 3] rfl)
  refine lv_iconst (v := 0) hx hb (by decide +kernel : decode prog_21_method_103_code 0 = .ok (.iconst 0, 1)) (by decide) ?_
  refine lv_istore_n (lv' := [(2, .int 0), (0, .ref h0), (1, .int v)]) hx hb (by decide +kernel : decode prog_21_method_103_code 1 = .ok (.istore_n 2, 1)) rfl hl (by decide) rfl (fun ls hl => ?_)
  refine lv_aload_n hx hb (by decide +kernel : decode prog_21_method_103_code 2 = .ok (.aload_n 0, 1)) rfl (lv_at hl 1 rfl) ?_
  refine va_alen (D := D) (cl := clL) (tys := tysC cy) (v := nI n) hx hb hK hP 0 0 rfl rfl rfl (by decide +kernel : decode prog_21_method_103_code 3 = .ok (.arraylength, 1)) ?_
  refine lv_istore_n (lv' := [(3, .int (nI n)), (2, .int 0), (0, .ref h0), (1, .int v)]) hx hb (by decide +kernel : decode prog_21_method_103_code 4 = .ok (.istore_n 3, 1)) rfl hl (by decide) rfl (fun ls hl => ?_)
  have hP0 := hP
  rw [← fl_0 f v] at hP0
  have hD0 := hD
  rw [← fl_0 f v] at hD0
  exact loop (n + 1) 0 s.heap [] ls (Nat.zero_le _) (by omega) hP0 hD0 hS (lv_sub hl [2, 3, 1, 0] rfl)
