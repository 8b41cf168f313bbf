theorem oI : Cond.instanceMethod objectInit ∈ gd := wAt_gd (i := 112) (by decide +kernel)
theorem oK : Cond.code objectInit ⟨#[0xb1]⟩ 1 none ∈ gd := wAt_gd (i := 113) (by decide +kernel)
def yC_1 : MethodName := ⟨"TableArms$Sheets", "<init>", "()V"⟩
def wC_1 : List Cond := Cond.code yC_1 prog_8_method_1_code 1 none :: gd
set_option maxRecDepth 100000 in
theorem cC_1 : Cond.code yC_1 prog_8_method_1_code 1 none ∈ gd := List.mem_filter.mpr ⟨List.mem_of_getElem? (i := 118) rfl, rfl⟩
theorem gC_1 : GoodIn gd wC_1 := by
  intro w hw
  rcases List.mem_cons.mp hw with rfl | h
  · exact ⟨cC_1, good_of_word (gd_good cC_1)⟩
  · exact ⟨h, good_of_word (gd_good h)⟩
theorem iC_1 : Cond.instanceMethod yC_1 ∈ gd := wAt_gd (i := 117) (by decide +kernel)
theorem nC_1 : Cond.initialized "TableArms$Sheets" ∈ gd := wAt_gd (i := 86) (by decide +kernel)
theorem oC_1 : Cond.methodLink "TableArms$Sheets" 3 objectInit ∈ gd := wAt_gd (i := 119) (by decide +kernel)
def pC_1 (cy : Nat → ClassId) (h0 : Nat) : va_W → Prop := fun u => ∃ q0 q1 q2 : Nat, u = [(h0, .inr (1, [.ref q0, .ref q1, .ref q2])), (q1, .inl (cy 0, 8, .inl (fun _ => 0))), (q2, .inl (cy 0, 320, .inl (fun _ => 0))), (q0, .inl (cy 0, 8, .inl (fl (fun _ => 0) (-1) 8)))]
set_option maxHeartbeats 4000000 in
set_option maxRecDepth 100000 in
theorem kc_1 (l : Launch) (D : va_G) (cy : Nat → ClassId) (h0 sz : Nat) : Met l yC_1 wC_1 { frames := 1, cells := 3, slots := 336, locals := 23 } (PcK D cy [(h0, .inr (1, [.null, .null, .null]))] sz [.ref h0]) (QvK D [(h0, .inr (1, [.null, .null, .null]))] sz (pC_1 cy h0)) 3 336 (va_A [(h0, .inr (1, [.null, .null, .null]))] sz) := by
  refine Met.ofW (cc := prog_8_method_1_code) (maxL := 1) (ret := none) (by decide +kernel) rfl ?_
  intro p e s m args below meth c s₁ B hml hv
  obtain ⟨rfl, hsz, hP, hKC, hD0⟩ := hv
  have hx := B.exec
  have hb := B.bytes
  have hr := B.returns
  have hlocks := B.notSynchronized
  have hgd : ∀ w ∈ gd, w.before ([.ref h0] : List Value).toArray s = true := fun w hw => atoms_spec (ws := wC_1) B.pre w (List.mem_cons_of_mem _ hw)
  have hown : s.vm.findClass "TableArms$Sheets" = some m.cls := findClass_of_methodNamed B.named
  have hin : meth.name = "<init>" := (name_of_methodNamed B.named B.method).1
  have hK := hKC.1
  subst hsz
  have hD := hD0.self (sz := s.heap.size)
  generalize hAe : va_A [(h0, .inr (1, [.null, .null, .null]))] s.heap.size = A at hD ⊢
  have hA : ∀ q : Nat, s.heap.size ≤ q → A q := fun q h => by rw [← hAe]; exact Or.inr h
  have hS : va_S A s.heap s.heap [] := va_S.rf
  have hl := lv_entry ([.ref h0]) (n := 1) (Nat.le_of_ble_eq_true rfl)
  rw [lg_entry_eq]
  generalize (lg_sl ([.ref h0]) ++ List.replicate (1 - (lg_sl ([.ref h0])).length) Slot.unset).toArray = ls at hl ⊢
  have hl : lv_has ls 1 [(0, .ref h0)] := hl
  refine lv_aload_n hx hb (by decide +kernel : decode prog_8_method_1_code 0 = .ok (.aload_n 0, 1)) rfl (lv_at hl 0 rfl) ?_
  refine W.objInit hx hb hown (hgd _ oC_1) (hgd _ oI) (hgd _ oK) rfl (by rw [hml]; exact hl.1) rfl (by decide +kernel : decode prog_8_method_1_code 1 = .ok (.invokespecial 3, 3)) (Nat.le_of_ble_eq_true rfl) (Nat.le_of_ble_eq_true rfl) ?_
  refine W.eq (g2 := F0 m 4 ls []) rfl ?_
  refine lv_aload_n hx hb (by decide +kernel : decode prog_8_method_1_code 4 = .ok (.aload_n 0, 1)) rfl (lv_at hl 0 rfl) ?_
  refine lv_bipush (v := 8) hx hb (by decide +kernel : decode prog_8_method_1_code 5 = .ok (.bipush 8, 2)) (by decide) ?_
  refine k_newI (N := 8) hx hb hgd hK hP hD hS hA (by decide) (by decide) (by decide) (Nat.le_of_ble_eq_true rfl) (Nat.le_of_ble_eq_true rfl) (by decide +kernel : decode prog_8_method_1_code 7 = .ok (.newarray .int, 2)) (fun q0 H hP hD hS => ?_)
  have hP : va_P D clL [(h0, .inr (1, [.null, .null, .null])), (q0, .inl (cy 0, 8, .inl (fun _ => 0)))] H := hP
  have hD : va_D A [(h0, .inr (1, [.null, .null, .null])), (q0, .inl (cy 0, 8, .inl (fun _ => 0)))] := hD
  refine va_putF (ty := .array .int) (D := D) (cl := clL) (tys := tysC cy) (own := "TableArms$Sheets") (ref := "TableArms$Sheets") (ci := 1) (v := .ref q0) (C := clC 1) (T := clT 1) (N := 3) hx hb hgd (sf_lay (t := 1) (by decide)) (fun k => (parseFieldDescriptor (clT 1 k).2.2.1).getD .int) (ob_ty (t := 1) (by decide)) (ob_nm (t := 1) (by decide)) hown hK hP hD hS 0 rfl (cl_at 1 (by decide)) 0 (by decide) (hgd (Cond.fieldLink "TableArms$Sheets" 9 "TableArms$Sheets" "lanes" "[I") (wAt_gd (i := 123) (by decide +kernel))) (fun _ h => h) rfl hin rfl (by decide +kernel) rfl rfl (Nat.le_of_ble_eq_true rfl) (by decide +kernel : decode prog_8_method_1_code 9 = .ok (.putfield 9, 3)) (fun H locs hP hD hS => ?_)
  have hP : va_P D clL [(h0, .inr (1, [.ref q0, .null, .null])), (q0, .inl (cy 0, 8, .inl (fun _ => 0)))] H := hP
  have hD : va_D A [(h0, .inr (1, [.ref q0, .null, .null])), (q0, .inl (cy 0, 8, .inl (fun _ => 0)))] := hD
  refine lv_aload_n hx hb (by decide +kernel : decode prog_8_method_1_code 12 = .ok (.aload_n 0, 1)) rfl (lv_at hl 0 rfl) ?_
  refine lv_bipush (v := 8) hx hb (by decide +kernel : decode prog_8_method_1_code 13 = .ok (.bipush 8, 2)) (by decide) ?_
  refine k_newI (N := 8) hx hb hgd hK hP hD hS hA (by decide) (by decide) (by decide) (Nat.le_of_ble_eq_true rfl) (Nat.le_of_ble_eq_true rfl) (by decide +kernel : decode prog_8_method_1_code 15 = .ok (.newarray .int, 2)) (fun q1 H hP hD hS => ?_)
  have hP : va_P D clL [(h0, .inr (1, [.ref q0, .null, .null])), (q0, .inl (cy 0, 8, .inl (fun _ => 0))), (q1, .inl (cy 0, 8, .inl (fun _ => 0)))] H := hP
  have hD : va_D A [(h0, .inr (1, [.ref q0, .null, .null])), (q0, .inl (cy 0, 8, .inl (fun _ => 0))), (q1, .inl (cy 0, 8, .inl (fun _ => 0)))] := hD
  refine va_putF (ty := .array .int) (D := D) (cl := clL) (tys := tysC cy) (own := "TableArms$Sheets") (ref := "TableArms$Sheets") (ci := 1) (v := .ref q1) (C := clC 1) (T := clT 1) (N := 3) hx hb hgd (sf_lay (t := 1) (by decide)) (fun k => (parseFieldDescriptor (clT 1 k).2.2.1).getD .int) (ob_ty (t := 1) (by decide)) (ob_nm (t := 1) (by decide)) hown hK hP hD hS 0 rfl (cl_at 1 (by decide)) 1 (by decide) (hgd (Cond.fieldLink "TableArms$Sheets" 15 "TableArms$Sheets" "sizes" "[I") (wAt_gd (i := 124) (by decide +kernel))) (fun _ h => h) rfl hin rfl (by decide +kernel) rfl rfl (Nat.le_of_ble_eq_true rfl) (by decide +kernel : decode prog_8_method_1_code 17 = .ok (.putfield 15, 3)) (fun H locs hP hD hS => ?_)
  have hP : va_P D clL [(h0, .inr (1, [.ref q0, .ref q1, .null])), (q0, .inl (cy 0, 8, .inl (fun _ => 0))), (q1, .inl (cy 0, 8, .inl (fun _ => 0)))] H := hP
  have hD : va_D A [(h0, .inr (1, [.ref q0, .ref q1, .null])), (q0, .inl (cy 0, 8, .inl (fun _ => 0))), (q1, .inl (cy 0, 8, .inl (fun _ => 0)))] := hD
  refine lv_aload_n hx hb (by decide +kernel : decode prog_8_method_1_code 20 = .ok (.aload_n 0, 1)) rfl (lv_at hl 0 rfl) ?_
  refine lv_sipush (v := 320) hx hb (by decide +kernel : decode prog_8_method_1_code 21 = .ok (.sipush 320, 3)) (by decide) ?_
  refine k_newI (N := 320) hx hb hgd hK hP hD hS hA (by decide) (by decide) (by decide) (Nat.le_of_ble_eq_true rfl) (Nat.le_of_ble_eq_true rfl) (by decide +kernel : decode prog_8_method_1_code 24 = .ok (.newarray .int, 2)) (fun q2 H hP hD hS => ?_)
  have hP : va_P D clL [(h0, .inr (1, [.ref q0, .ref q1, .null])), (q0, .inl (cy 0, 8, .inl (fun _ => 0))), (q1, .inl (cy 0, 8, .inl (fun _ => 0))), (q2, .inl (cy 0, 320, .inl (fun _ => 0)))] H := hP
  have hD : va_D A [(h0, .inr (1, [.ref q0, .ref q1, .null])), (q0, .inl (cy 0, 8, .inl (fun _ => 0))), (q1, .inl (cy 0, 8, .inl (fun _ => 0))), (q2, .inl (cy 0, 320, .inl (fun _ => 0)))] := hD
  refine va_putF (ty := .array .int) (D := D) (cl := clL) (tys := tysC cy) (own := "TableArms$Sheets") (ref := "TableArms$Sheets") (ci := 1) (v := .ref q2) (C := clC 1) (T := clT 1) (N := 3) hx hb hgd (sf_lay (t := 1) (by decide)) (fun k => (parseFieldDescriptor (clT 1 k).2.2.1).getD .int) (ob_ty (t := 1) (by decide)) (ob_nm (t := 1) (by decide)) hown hK hP hD hS 0 rfl (cl_at 1 (by decide)) 2 (by decide) (hgd (Cond.fieldLink "TableArms$Sheets" 18 "TableArms$Sheets" "items" "[I") (wAt_gd (i := 125) (by decide +kernel))) (fun _ h => h) rfl hin rfl (by decide +kernel) rfl rfl (Nat.le_of_ble_eq_true rfl) (by decide +kernel : decode prog_8_method_1_code 26 = .ok (.putfield 18, 3)) (fun H locs hP hD hS => ?_)
  have hP : va_P D clL [(h0, .inr (1, [.ref q0, .ref q1, .ref q2])), (q0, .inl (cy 0, 8, .inl (fun _ => 0))), (q1, .inl (cy 0, 8, .inl (fun _ => 0))), (q2, .inl (cy 0, 320, .inl (fun _ => 0)))] H := hP
  have hD : va_D A [(h0, .inr (1, [.ref q0, .ref q1, .ref q2])), (q0, .inl (cy 0, 8, .inl (fun _ => 0))), (q1, .inl (cy 0, 8, .inl (fun _ => 0))), (q2, .inl (cy 0, 320, .inl (fun _ => 0)))] := hD
  refine lv_aload_n hx hb (by decide +kernel : decode prog_8_method_1_code 29 = .ok (.aload_n 0, 1)) rfl (lv_at hl 0 rfl) ?_
  refine va_get (D := D) (cl := clL) (tys := tysC cy) (own := "TableArms$Sheets") (ref := "TableArms$Sheets") (ci := 1) (v := .ref q0) (C := clC 1) (T := clT 1) (N := 3) hx hb hgd (sf_lay (t := 1) (by decide)) hown hK hP 0 rfl (cl_at 1 (by decide)) 0 (by decide) (hgd (Cond.fieldLink "TableArms$Sheets" 9 "TableArms$Sheets" "lanes" "[I") (wAt_gd (i := 123) (by decide +kernel))) (fun _ h => h) rfl (by decide +kernel : decode prog_8_method_1_code 30 = .ok (.getfield 9, 3)) ?_
  refine lv_iconst (v := -1) hx hb (by decide +kernel : decode prog_8_method_1_code 33 = .ok (.iconst (-1), 1)) (by decide) ?_
  have hPc := hP.sub (ws' := [(q0, .inl (cy 0, 8, .inl (fun _ => 0)))]) [1] rfl
  have hDc := hD.sub (ws' := [(q0, .inl (cy 0, 8, .inl (fun _ => 0)))]) [1] (by decide) rfl
  have hFc := va_free (wc := [(q0, .inl (cy 0, 8, .inl (fun _ => 0)))]) hD hS hA [1] rfl
  refine va_callv (a := ([.ref q0, .int (-1)] : List Value).toArray) (va_runS (As := [.ref q0, .int (-1)]) (rest := []) (n := 2) ⟨hx, hb, hml, hown, hgd⟩ (kc_fill l D cy q0 H.size 8 (by decide) (fun _ => 0) (-1)) ⟨callB_of (own := "TableArms$Sheets") (index := 21) (y := yK_fill) 2 hgd gK_fill rfl rfl rfl (hgd _ iK_fill) (hgd _ (wAt_gd (i := 120) (by decide +kernel))) (by decide +kernel) ⟨Nat.le_of_ble_eq_true rfl, Nat.le_of_ble_eq_true rfl⟩, hgd _ sK_fill⟩ ⟨PcK_blind, fun U hU hW => ⟨rfl, by rw [hU], by rw [hU]; exact hPc, hKC.warm hW, hDc.weaken (fun _ _ _ _ => trivial)⟩⟩ rfl rfl hl.1 rfl (lv_room (Nat.le_of_ble_eq_true rfl)) (by decide +kernel : decode prog_8_method_1_code 34 = .ok (.invokestatic 21, 3)) ⟨Nat.le_of_ble_eq_true rfl, Nat.le_of_ble_eq_true rfl⟩) hS (fun q _ h => hFc q h) hFc (fun u t H1 locs ht hvm hw hB hz1 hk1 hS => ?_)
  subst hw
  obtain ⟨hP1, hD1⟩ := hB
  rw [ht] at hP1
  obtain ⟨hP, hD⟩ := va_join (wr := [(h0, .inr (1, [.ref q0, .ref q1, .ref q2])), (q1, .inl (cy 0, 8, .inl (fun _ => 0))), (q2, .inl (cy 0, 320, .inl (fun _ => 0)))]) (w1 := [(q0, .inl (cy 0, 8, .inl (fl (fun _ => 0) (-1) 8)))]) hP hD [1] [0, 2, 3] rfl rfl (by decide) (by decide) hk1 hFc hP1 hD1
  clear hk1 hP1 hD1 hz1 ht hvm hPc hDc hFc
  generalize H1 = H at hP hS ⊢
  have hP : va_P D clL [(h0, .inr (1, [.ref q0, .ref q1, .ref q2])), (q1, .inl (cy 0, 8, .inl (fun _ => 0))), (q2, .inl (cy 0, 320, .inl (fun _ => 0))), (q0, .inl (cy 0, 8, .inl (fl (fun _ => 0) (-1) 8)))] H := hP
  have hD : va_D A [(h0, .inr (1, [.ref q0, .ref q1, .ref q2])), (q1, .inl (cy 0, 8, .inl (fun _ => 0))), (q2, .inl (cy 0, 320, .inl (fun _ => 0))), (q0, .inl (cy 0, 8, .inl (fl (fun _ => 0) (-1) 8)))] := hD
  exact W.vret hx hb hr (fun t ht hW => ⟨⟨_, rfl, ⟨q0, q1, q2, rfl⟩, by show va_P D clL _ t.heap; rw [ht]; exact hP, by rw [hAe]; exact hD⟩, by rw [hAe]; exact hS.F ht⟩) hS.2.2 (by decide +kernel : decode prog_8_method_1_code 37 = .ok (.return_, 1))
def yC_5 : MethodName := ⟨"TableArms$Stock", "<init>", "()V"⟩
def wC_5 : List Cond := Cond.code yC_5 prog_10_method_1_code 1 none :: gd
set_option maxRecDepth 100000 in
theorem cC_5 : Cond.code yC_5 prog_10_method_1_code 1 none ∈ gd := List.mem_filter.mpr ⟨List.mem_of_getElem? (i := 138) rfl, rfl⟩
theorem gC_5 : GoodIn gd wC_5 := by
  intro w hw
  rcases List.mem_cons.mp hw with rfl | h
  · exact ⟨cC_5, good_of_word (gd_good cC_5)⟩
  · exact ⟨h, good_of_word (gd_good h)⟩
theorem iC_5 : Cond.instanceMethod yC_5 ∈ gd := wAt_gd (i := 137) (by decide +kernel)
theorem nC_5 : Cond.initialized "TableArms$Stock" ∈ gd := wAt_gd (i := 88) (by decide +kernel)
theorem oC_5 : Cond.methodLink "TableArms$Stock" 3 objectInit ∈ gd := wAt_gd (i := 139) (by decide +kernel)
def pC_5 (cy : Nat → ClassId) (h0 : Nat) : va_W → Prop := fun u => ∃ q0 q1 : Nat, u = [(h0, .inr (2, [.ref q0, .ref q1, .int 0])), (q0, .inl (cy 0, 6, .inl (fun _ => 0))), (q1, .inl (cy 0, 6, .inl (fun _ => 0)))]
set_option maxHeartbeats 4000000 in
set_option maxRecDepth 100000 in
theorem kc_5 (l : Launch) (D : va_G) (cy : Nat → ClassId) (h0 sz : Nat) : Met l yC_5 wC_5 { frames := 1, cells := 2, slots := 12, locals := 12 } (PcK D cy [(h0, .inr (2, [.null, .null, .int 0]))] sz [.ref h0]) (QvK D [(h0, .inr (2, [.null, .null, .int 0]))] sz (pC_5 cy h0)) 2 12 (va_A [(h0, .inr (2, [.null, .null, .int 0]))] sz) := by
  refine Met.ofW (cc := prog_10_method_1_code) (maxL := 1) (ret := none) (by decide +kernel) rfl ?_
  intro p e s m args below meth c s₁ B hml hv
  obtain ⟨rfl, hsz, hP, hKC, hD0⟩ := hv
  have hx := B.exec
  have hb := B.bytes
  have hr := B.returns
  have hlocks := B.notSynchronized
  have hgd : ∀ w ∈ gd, w.before ([.ref h0] : List Value).toArray s = true := fun w hw => atoms_spec (ws := wC_5) B.pre w (List.mem_cons_of_mem _ hw)
  have hown : s.vm.findClass "TableArms$Stock" = some m.cls := findClass_of_methodNamed B.named
  have hin : meth.name = "<init>" := (name_of_methodNamed B.named B.method).1
  have hK := hKC.1
  subst hsz
  have hD := hD0.self (sz := s.heap.size)
  generalize hAe : va_A [(h0, .inr (2, [.null, .null, .int 0]))] s.heap.size = A at hD ⊢
  have hA : ∀ q : Nat, s.heap.size ≤ q → A q := fun q h => by rw [← hAe]; exact Or.inr h
  have hS : va_S A s.heap s.heap [] := va_S.rf
  have hl := lv_entry ([.ref h0]) (n := 1) (Nat.le_of_ble_eq_true rfl)
  rw [lg_entry_eq]
  generalize (lg_sl ([.ref h0]) ++ List.replicate (1 - (lg_sl ([.ref h0])).length) Slot.unset).toArray = ls at hl ⊢
  have hl : lv_has ls 1 [(0, .ref h0)] := hl
  refine lv_aload_n hx hb (by decide +kernel : decode prog_10_method_1_code 0 = .ok (.aload_n 0, 1)) rfl (lv_at hl 0 rfl) ?_
  refine W.objInit hx hb hown (hgd _ oC_5) (hgd _ oI) (hgd _ oK) rfl (by rw [hml]; exact hl.1) rfl (by decide +kernel : decode prog_10_method_1_code 1 = .ok (.invokespecial 3, 3)) (Nat.le_of_ble_eq_true rfl) (Nat.le_of_ble_eq_true rfl) ?_
  refine W.eq (g2 := F0 m 4 ls []) rfl ?_
  refine lv_aload_n hx hb (by decide +kernel : decode prog_10_method_1_code 4 = .ok (.aload_n 0, 1)) rfl (lv_at hl 0 rfl) ?_
  refine lv_bipush (v := 6) hx hb (by decide +kernel : decode prog_10_method_1_code 5 = .ok (.bipush 6, 2)) (by decide) ?_
  refine k_newI (N := 6) hx hb hgd hK hP hD hS hA (by decide) (by decide) (by decide) (Nat.le_of_ble_eq_true rfl) (Nat.le_of_ble_eq_true rfl) (by decide +kernel : decode prog_10_method_1_code 7 = .ok (.newarray .int, 2)) (fun q0 H hP hD hS => ?_)
  have hP : va_P D clL [(h0, .inr (2, [.null, .null, .int 0])), (q0, .inl (cy 0, 6, .inl (fun _ => 0)))] H := hP
  have hD : va_D A [(h0, .inr (2, [.null, .null, .int 0])), (q0, .inl (cy 0, 6, .inl (fun _ => 0)))] := hD
  refine va_putF (ty := .array .int) (D := D) (cl := clL) (tys := tysC cy) (own := "TableArms$Stock") (ref := "TableArms$Stock") (ci := 2) (v := .ref q0) (C := clC 5) (T := clT 5) (N := 3) hx hb hgd (sf_lay (t := 5) (by decide)) (fun k => (parseFieldDescriptor (clT 5 k).2.2.1).getD .int) (ob_ty (t := 5) (by decide)) (ob_nm (t := 5) (by decide)) hown hK hP hD hS 0 rfl (cl_at 5 (by decide)) 0 (by decide) (hgd (Cond.fieldLink "TableArms$Stock" 9 "TableArms$Stock" "sorts" "[I") (wAt_gd (i := 140) (by decide +kernel))) (fun _ h => h) rfl hin rfl (by decide +kernel) rfl rfl (Nat.le_of_ble_eq_true rfl) (by decide +kernel : decode prog_10_method_1_code 9 = .ok (.putfield 9, 3)) (fun H locs hP hD hS => ?_)
  have hP : va_P D clL [(h0, .inr (2, [.ref q0, .null, .int 0])), (q0, .inl (cy 0, 6, .inl (fun _ => 0)))] H := hP
  have hD : va_D A [(h0, .inr (2, [.ref q0, .null, .int 0])), (q0, .inl (cy 0, 6, .inl (fun _ => 0)))] := hD
  refine lv_aload_n hx hb (by decide +kernel : decode prog_10_method_1_code 12 = .ok (.aload_n 0, 1)) rfl (lv_at hl 0 rfl) ?_
  refine lv_bipush (v := 6) hx hb (by decide +kernel : decode prog_10_method_1_code 13 = .ok (.bipush 6, 2)) (by decide) ?_
  refine k_newI (N := 6) hx hb hgd hK hP hD hS hA (by decide) (by decide) (by decide) (Nat.le_of_ble_eq_true rfl) (Nat.le_of_ble_eq_true rfl) (by decide +kernel : decode prog_10_method_1_code 15 = .ok (.newarray .int, 2)) (fun q1 H hP hD hS => ?_)
  have hP : va_P D clL [(h0, .inr (2, [.ref q0, .null, .int 0])), (q0, .inl (cy 0, 6, .inl (fun _ => 0))), (q1, .inl (cy 0, 6, .inl (fun _ => 0)))] H := hP
  have hD : va_D A [(h0, .inr (2, [.ref q0, .null, .int 0])), (q0, .inl (cy 0, 6, .inl (fun _ => 0))), (q1, .inl (cy 0, 6, .inl (fun _ => 0)))] := hD
  refine va_putF (ty := .array .int) (D := D) (cl := clL) (tys := tysC cy) (own := "TableArms$Stock") (ref := "TableArms$Stock") (ci := 2) (v := .ref q1) (C := clC 5) (T := clT 5) (N := 3) hx hb hgd (sf_lay (t := 5) (by decide)) (fun k => (parseFieldDescriptor (clT 5 k).2.2.1).getD .int) (ob_ty (t := 5) (by decide)) (ob_nm (t := 5) (by decide)) hown hK hP hD hS 0 rfl (cl_at 5 (by decide)) 1 (by decide) (hgd (Cond.fieldLink "TableArms$Stock" 15 "TableArms$Stock" "weights" "[I") (wAt_gd (i := 141) (by decide +kernel))) (fun _ h => h) rfl hin rfl (by decide +kernel) rfl rfl (Nat.le_of_ble_eq_true rfl) (by decide +kernel : decode prog_10_method_1_code 17 = .ok (.putfield 15, 3)) (fun H locs hP hD hS => ?_)
  have hP : va_P D clL [(h0, .inr (2, [.ref q0, .ref q1, .int 0])), (q0, .inl (cy 0, 6, .inl (fun _ => 0))), (q1, .inl (cy 0, 6, .inl (fun _ => 0)))] H := hP
  have hD : va_D A [(h0, .inr (2, [.ref q0, .ref q1, .int 0])), (q0, .inl (cy 0, 6, .inl (fun _ => 0))), (q1, .inl (cy 0, 6, .inl (fun _ => 0)))] := hD
  exact W.vret hx hb hr (fun t ht hW => ⟨⟨_, rfl, ⟨q0, q1, rfl⟩, by show va_P D clL _ t.heap; rw [ht]; exact hP, by rw [hAe]; exact hD⟩, by rw [hAe]; exact hS.F ht⟩) hS.2.2 (by decide +kernel : decode prog_10_method_1_code 20 = .ok (.return_, 1))
def yC_8 : MethodName := ⟨"TableArms$Table", "<init>", "(LTableArms$Stock;)V"⟩
def wC_8 : List Cond := Cond.code yC_8 prog_11_method_1_code 2 none :: gd
set_option maxRecDepth 100000 in
theorem cC_8 : Cond.code yC_8 prog_11_method_1_code 2 none ∈ gd := List.mem_filter.mpr ⟨List.mem_of_getElem? (i := 154) rfl, rfl⟩
theorem gC_8 : GoodIn gd wC_8 := by
  intro w hw
  rcases List.mem_cons.mp hw with rfl | h
  · exact ⟨cC_8, good_of_word (gd_good cC_8)⟩
  · exact ⟨h, good_of_word (gd_good h)⟩
theorem iC_8 : Cond.instanceMethod yC_8 ∈ gd := wAt_gd (i := 153) (by decide +kernel)
theorem nC_8 : Cond.initialized "TableArms$Table" ∈ gd := wAt_gd (i := 89) (by decide +kernel)
theorem oC_8 : Cond.methodLink "TableArms$Table" 3 objectInit ∈ gd := wAt_gd (i := 155) (by decide +kernel)
def pC_8 (cy : Nat → ClassId) (h0 st : Nat) : va_W → Prop := fun u => ∃ q0 q1 q2 q3 : Nat, u = [(h0, .inr (3, [.ref st, .ref q0, .ref q1, .ref q2, .ref q3])), (q0, .inl (cy 0, 6, .inl (fl (fun _ => 0) (-1000000) 6))), (q1, .inl (cy 0, 6, .inl (fl (fun _ => 0) (-1000000) 6))), (q2, .inl (cy 0, 6, .inl (fl (fun _ => 0) (-1000000) 6))), (q3, .inl (cy 0, 8, .inl (fl (fun _ => 0) (-1000000) 8)))]
set_option maxHeartbeats 4000000 in
set_option maxRecDepth 100000 in
theorem kc_8 (l : Launch) (D : va_G) (cy : Nat → ClassId) (h0 sz : Nat) (st : Nat) : Met l yC_8 wC_8 { frames := 1, cells := 4, slots := 26, locals := 23 } (PcK D cy [(h0, .inr (3, [.null, .null, .null, .null, .null]))] sz [.ref h0, .ref st]) (QvK D [(h0, .inr (3, [.null, .null, .null, .null, .null]))] sz (pC_8 cy h0 st)) 4 26 (va_A [(h0, .inr (3, [.null, .null, .null, .null, .null]))] sz) := by
  refine Met.ofW (cc := prog_11_method_1_code) (maxL := 2) (ret := none) (by decide +kernel) rfl ?_
  intro p e s m args below meth c s₁ B hml hv
  obtain ⟨rfl, hsz, hP, hKC, hD0⟩ := hv
  have hx := B.exec
  have hb := B.bytes
  have hr := B.returns
  have hlocks := B.notSynchronized
  have hgd : ∀ w ∈ gd, w.before ([.ref h0, .ref st] : List Value).toArray s = true := fun w hw => atoms_spec (ws := wC_8) B.pre w (List.mem_cons_of_mem _ hw)
  have hown : s.vm.findClass "TableArms$Table" = some m.cls := findClass_of_methodNamed B.named
  have hin : meth.name = "<init>" := (name_of_methodNamed B.named B.method).1
  have hK := hKC.1
  subst hsz
  have hD := hD0.self (sz := s.heap.size)
  generalize hAe : va_A [(h0, .inr (3, [.null, .null, .null, .null, .null]))] s.heap.size = A at hD ⊢
  have hA : ∀ q : Nat, s.heap.size ≤ q → A q := fun q h => by rw [← hAe]; exact Or.inr h
  have hS : va_S A s.heap s.heap [] := va_S.rf
  have hl := lv_entry ([.ref h0, .ref st]) (n := 2) (Nat.le_of_ble_eq_true rfl)
  rw [lg_entry_eq]
  generalize (lg_sl ([.ref h0, .ref st]) ++ List.replicate (2 - (lg_sl ([.ref h0, .ref st])).length) Slot.unset).toArray = ls at hl ⊢
  have hl : lv_has ls 2 [(0, .ref h0), (1, .ref st)] := hl
  refine lv_aload_n hx hb (by decide +kernel : decode prog_11_method_1_code 0 = .ok (.aload_n 0, 1)) rfl (lv_at hl 0 rfl) ?_
  refine W.objInit hx hb hown (hgd _ oC_8) (hgd _ oI) (hgd _ oK) rfl (by rw [hml]; exact hl.1) rfl (by decide +kernel : decode prog_11_method_1_code 1 = .ok (.invokespecial 3, 3)) (Nat.le_of_ble_eq_true rfl) (Nat.le_of_ble_eq_true rfl) ?_
  refine W.eq (g2 := F0 m 4 ls []) rfl ?_
  refine lv_aload_n hx hb (by decide +kernel : decode prog_11_method_1_code 4 = .ok (.aload_n 0, 1)) rfl (lv_at hl 0 rfl) ?_
  refine lv_bipush (v := 6) hx hb (by decide +kernel : decode prog_11_method_1_code 5 = .ok (.bipush 6, 2)) (by decide) ?_
  refine k_newI (N := 6) hx hb hgd hK hP hD hS hA (by decide) (by decide) (by decide) (Nat.le_of_ble_eq_true rfl) (Nat.le_of_ble_eq_true rfl) (by decide +kernel : decode prog_11_method_1_code 7 = .ok (.newarray .int, 2)) (fun q0 H hP hD hS => ?_)
  have hP : va_P D clL [(h0, .inr (3, [.null, .null, .null, .null, .null])), (q0, .inl (cy 0, 6, .inl (fun _ => 0)))] H := hP
  have hD : va_D A [(h0, .inr (3, [.null, .null, .null, .null, .null])), (q0, .inl (cy 0, 6, .inl (fun _ => 0)))] := hD
  refine va_putF (ty := .array .int) (D := D) (cl := clL) (tys := tysC cy) (own := "TableArms$Table") (ref := "TableArms$Table") (ci := 3) (v := .ref q0) (C := clC 8) (T := clT 8) (N := 5) hx hb hgd (sf_lay (t := 8) (by decide)) (fun k => (parseFieldDescriptor (clT 8 k).2.2.1).getD .int) (ob_ty (t := 8) (by decide)) (ob_nm (t := 8) (by decide)) hown hK hP hD hS 0 rfl (cl_at 8 (by decide)) 1 (by decide) (hgd (Cond.fieldLink "TableArms$Table" 9 "TableArms$Table" "spots" "[I") (wAt_gd (i := 159) (by decide +kernel))) (fun _ h => h) rfl hin rfl (by decide +kernel) rfl rfl (Nat.le_of_ble_eq_true rfl) (by decide +kernel : decode prog_11_method_1_code 9 = .ok (.putfield 9, 3)) (fun H locs hP hD hS => ?_)
  have hP : va_P D clL [(h0, .inr (3, [.null, .ref q0, .null, .null, .null])), (q0, .inl (cy 0, 6, .inl (fun _ => 0)))] H := hP
  have hD : va_D A [(h0, .inr (3, [.null, .ref q0, .null, .null, .null])), (q0, .inl (cy 0, 6, .inl (fun _ => 0)))] := hD
  refine lv_aload_n hx hb (by decide +kernel : decode prog_11_method_1_code 12 = .ok (.aload_n 0, 1)) rfl (lv_at hl 0 rfl) ?_
  refine lv_bipush (v := 6) hx hb (by decide +kernel : decode prog_11_method_1_code 13 = .ok (.bipush 6, 2)) (by decide) ?_
  refine k_newI (N := 6) hx hb hgd hK hP hD hS hA (by decide) (by decide) (by decide) (Nat.le_of_ble_eq_true rfl) (Nat.le_of_ble_eq_true rfl) (by decide +kernel : decode prog_11_method_1_code 15 = .ok (.newarray .int, 2)) (fun q1 H hP hD hS => ?_)
  have hP : va_P D clL [(h0, .inr (3, [.null, .ref q0, .null, .null, .null])), (q0, .inl (cy 0, 6, .inl (fun _ => 0))), (q1, .inl (cy 0, 6, .inl (fun _ => 0)))] H := hP
  have hD : va_D A [(h0, .inr (3, [.null, .ref q0, .null, .null, .null])), (q0, .inl (cy 0, 6, .inl (fun _ => 0))), (q1, .inl (cy 0, 6, .inl (fun _ => 0)))] := hD
  refine va_putF (ty := .array .int) (D := D) (cl := clL) (tys := tysC cy) (own := "TableArms$Table") (ref := "TableArms$Table") (ci := 3) (v := .ref q1) (C := clC 8) (T := clT 8) (N := 5) hx hb hgd (sf_lay (t := 8) (by decide)) (fun k => (parseFieldDescriptor (clT 8 k).2.2.1).getD .int) (ob_ty (t := 8) (by decide)) (ob_nm (t := 8) (by decide)) hown hK hP hD hS 0 rfl (cl_at 8 (by decide)) 2 (by decide) (hgd (Cond.fieldLink "TableArms$Table" 15 "TableArms$Table" "belows" "[I") (wAt_gd (i := 160) (by decide +kernel))) (fun _ h => h) rfl hin rfl (by decide +kernel) rfl rfl (Nat.le_of_ble_eq_true rfl) (by decide +kernel : decode prog_11_method_1_code 17 = .ok (.putfield 15, 3)) (fun H locs hP hD hS => ?_)
  have hP : va_P D clL [(h0, .inr (3, [.null, .ref q0, .ref q1, .null, .null])), (q0, .inl (cy 0, 6, .inl (fun _ => 0))), (q1, .inl (cy 0, 6, .inl (fun _ => 0)))] H := hP
  have hD : va_D A [(h0, .inr (3, [.null, .ref q0, .ref q1, .null, .null])), (q0, .inl (cy 0, 6, .inl (fun _ => 0))), (q1, .inl (cy 0, 6, .inl (fun _ => 0)))] := hD
  refine lv_aload_n hx hb (by decide +kernel : decode prog_11_method_1_code 20 = .ok (.aload_n 0, 1)) rfl (lv_at hl 0 rfl) ?_
  refine lv_bipush (v := 6) hx hb (by decide +kernel : decode prog_11_method_1_code 21 = .ok (.bipush 6, 2)) (by decide) ?_
  refine k_newI (N := 6) hx hb hgd hK hP hD hS hA (by decide) (by decide) (by decide) (Nat.le_of_ble_eq_true rfl) (Nat.le_of_ble_eq_true rfl) (by decide +kernel : decode prog_11_method_1_code 23 = .ok (.newarray .int, 2)) (fun q2 H hP hD hS => ?_)
  have hP : va_P D clL [(h0, .inr (3, [.null, .ref q0, .ref q1, .null, .null])), (q0, .inl (cy 0, 6, .inl (fun _ => 0))), (q1, .inl (cy 0, 6, .inl (fun _ => 0))), (q2, .inl (cy 0, 6, .inl (fun _ => 0)))] H := hP
  have hD : va_D A [(h0, .inr (3, [.null, .ref q0, .ref q1, .null, .null])), (q0, .inl (cy 0, 6, .inl (fun _ => 0))), (q1, .inl (cy 0, 6, .inl (fun _ => 0))), (q2, .inl (cy 0, 6, .inl (fun _ => 0)))] := hD
  refine va_putF (ty := .array .int) (D := D) (cl := clL) (tys := tysC cy) (own := "TableArms$Table") (ref := "TableArms$Table") (ci := 3) (v := .ref q2) (C := clC 8) (T := clT 8) (N := 5) hx hb hgd (sf_lay (t := 8) (by decide)) (fun k => (parseFieldDescriptor (clT 8 k).2.2.1).getD .int) (ob_ty (t := 8) (by decide)) (ob_nm (t := 8) (by decide)) hown hK hP hD hS 0 rfl (cl_at 8 (by decide)) 3 (by decide) (hgd (Cond.fieldLink "TableArms$Table" 18 "TableArms$Table" "insides" "[I") (wAt_gd (i := 161) (by decide +kernel))) (fun _ h => h) rfl hin rfl (by decide +kernel) rfl rfl (Nat.le_of_ble_eq_true rfl) (by decide +kernel : decode prog_11_method_1_code 25 = .ok (.putfield 18, 3)) (fun H locs hP hD hS => ?_)
  have hP : va_P D clL [(h0, .inr (3, [.null, .ref q0, .ref q1, .ref q2, .null])), (q0, .inl (cy 0, 6, .inl (fun _ => 0))), (q1, .inl (cy 0, 6, .inl (fun _ => 0))), (q2, .inl (cy 0, 6, .inl (fun _ => 0)))] H := hP
  have hD : va_D A [(h0, .inr (3, [.null, .ref q0, .ref q1, .ref q2, .null])), (q0, .inl (cy 0, 6, .inl (fun _ => 0))), (q1, .inl (cy 0, 6, .inl (fun _ => 0))), (q2, .inl (cy 0, 6, .inl (fun _ => 0)))] := hD
  refine lv_aload_n hx hb (by decide +kernel : decode prog_11_method_1_code 28 = .ok (.aload_n 0, 1)) rfl (lv_at hl 0 rfl) ?_
  refine lv_bipush (v := 8) hx hb (by decide +kernel : decode prog_11_method_1_code 29 = .ok (.bipush 8, 2)) (by decide) ?_
  refine k_newI (N := 8) hx hb hgd hK hP hD hS hA (by decide) (by decide) (by decide) (Nat.le_of_ble_eq_true rfl) (Nat.le_of_ble_eq_true rfl) (by decide +kernel : decode prog_11_method_1_code 31 = .ok (.newarray .int, 2)) (fun q3 H hP hD hS => ?_)
  have hP : va_P D clL [(h0, .inr (3, [.null, .ref q0, .ref q1, .ref q2, .null])), (q0, .inl (cy 0, 6, .inl (fun _ => 0))), (q1, .inl (cy 0, 6, .inl (fun _ => 0))), (q2, .inl (cy 0, 6, .inl (fun _ => 0))), (q3, .inl (cy 0, 8, .inl (fun _ => 0)))] H := hP
  have hD : va_D A [(h0, .inr (3, [.null, .ref q0, .ref q1, .ref q2, .null])), (q0, .inl (cy 0, 6, .inl (fun _ => 0))), (q1, .inl (cy 0, 6, .inl (fun _ => 0))), (q2, .inl (cy 0, 6, .inl (fun _ => 0))), (q3, .inl (cy 0, 8, .inl (fun _ => 0)))] := hD
  refine va_putF (ty := .array .int) (D := D) (cl := clL) (tys := tysC cy) (own := "TableArms$Table") (ref := "TableArms$Table") (ci := 3) (v := .ref q3) (C := clC 8) (T := clT 8) (N := 5) hx hb hgd (sf_lay (t := 8) (by decide)) (fun k => (parseFieldDescriptor (clT 8 k).2.2.1).getD .int) (ob_ty (t := 8) (by decide)) (ob_nm (t := 8) (by decide)) hown hK hP hD hS 0 rfl (cl_at 8 (by decide)) 4 (by decide) (hgd (Cond.fieldLink "TableArms$Table" 21 "TableArms$Table" "tops" "[I") (wAt_gd (i := 162) (by decide +kernel))) (fun _ h => h) rfl hin rfl (by decide +kernel) rfl rfl (Nat.le_of_ble_eq_true rfl) (by decide +kernel : decode prog_11_method_1_code 33 = .ok (.putfield 21, 3)) (fun H locs hP hD hS => ?_)
  have hP : va_P D clL [(h0, .inr (3, [.null, .ref q0, .ref q1, .ref q2, .ref q3])), (q0, .inl (cy 0, 6, .inl (fun _ => 0))), (q1, .inl (cy 0, 6, .inl (fun _ => 0))), (q2, .inl (cy 0, 6, .inl (fun _ => 0))), (q3, .inl (cy 0, 8, .inl (fun _ => 0)))] H := hP
  have hD : va_D A [(h0, .inr (3, [.null, .ref q0, .ref q1, .ref q2, .ref q3])), (q0, .inl (cy 0, 6, .inl (fun _ => 0))), (q1, .inl (cy 0, 6, .inl (fun _ => 0))), (q2, .inl (cy 0, 6, .inl (fun _ => 0))), (q3, .inl (cy 0, 8, .inl (fun _ => 0)))] := hD
  refine lv_aload_n hx hb (by decide +kernel : decode prog_11_method_1_code 36 = .ok (.aload_n 0, 1)) rfl (lv_at hl 0 rfl) ?_
  refine lv_aload_n hx hb (by decide +kernel : decode prog_11_method_1_code 37 = .ok (.aload_n 1, 1)) rfl (lv_at hl 1 rfl) ?_
  refine va_putF (ty := .object "TableArms$Stock") (D := D) (cl := clL) (tys := tysC cy) (own := "TableArms$Table") (ref := "TableArms$Table") (ci := 3) (v := .ref st) (C := clC 8) (T := clT 8) (N := 5) hx hb hgd (sf_lay (t := 8) (by decide)) (fun k => (parseFieldDescriptor (clT 8 k).2.2.1).getD .int) (ob_ty (t := 8) (by decide)) (ob_nm (t := 8) (by decide)) hown hK hP hD hS 0 rfl (cl_at 8 (by decide)) 0 (by decide) (hgd (Cond.fieldLink "TableArms$Table" 24 "TableArms$Table" "stock" "LTableArms$Stock;") (wAt_gd (i := 158) (by decide +kernel))) (fun _ h => h) rfl hin rfl (by decide +kernel) rfl rfl (Nat.le_of_ble_eq_true rfl) (by decide +kernel : decode prog_11_method_1_code 38 = .ok (.putfield 24, 3)) (fun H locs hP hD hS => ?_)
  have hP : va_P D clL [(h0, .inr (3, [.ref st, .ref q0, .ref q1, .ref q2, .ref q3])), (q0, .inl (cy 0, 6, .inl (fun _ => 0))), (q1, .inl (cy 0, 6, .inl (fun _ => 0))), (q2, .inl (cy 0, 6, .inl (fun _ => 0))), (q3, .inl (cy 0, 8, .inl (fun _ => 0)))] H := hP
  have hD : va_D A [(h0, .inr (3, [.ref st, .ref q0, .ref q1, .ref q2, .ref q3])), (q0, .inl (cy 0, 6, .inl (fun _ => 0))), (q1, .inl (cy 0, 6, .inl (fun _ => 0))), (q2, .inl (cy 0, 6, .inl (fun _ => 0))), (q3, .inl (cy 0, 8, .inl (fun _ => 0)))] := hD
  refine lv_aload_n hx hb (by decide +kernel : decode prog_11_method_1_code 41 = .ok (.aload_n 0, 1)) rfl (lv_at hl 0 rfl) ?_
  refine va_get (D := D) (cl := clL) (tys := tysC cy) (own := "TableArms$Table") (ref := "TableArms$Table") (ci := 3) (v := .ref q0) (C := clC 8) (T := clT 8) (N := 5) hx hb hgd (sf_lay (t := 8) (by decide)) hown hK hP 0 rfl (cl_at 8 (by decide)) 1 (by decide) (hgd (Cond.fieldLink "TableArms$Table" 9 "TableArms$Table" "spots" "[I") (wAt_gd (i := 159) (by decide +kernel))) (fun _ h => h) rfl (by decide +kernel : decode prog_11_method_1_code 42 = .ok (.getfield 9, 3)) ?_
  refine lv_ldc (own := "TableArms$Table") (v := -1000000) hx hb hown (hgd _ (wAt_gd (i := 156) (by decide +kernel))) (by decide +kernel : decode prog_11_method_1_code 45 = .ok (.ldc 28, 2)) ?_
  have hPc := hP.sub (ws' := [(q0, .inl (cy 0, 6, .inl (fun _ => 0)))]) [1] rfl
  have hDc := hD.sub (ws' := [(q0, .inl (cy 0, 6, .inl (fun _ => 0)))]) [1] (by decide) rfl
  have hFc := va_free (wc := [(q0, .inl (cy 0, 6, .inl (fun _ => 0)))]) hD hS hA [1] rfl
  refine va_callv (a := ([.ref q0, .int (-1000000)] : List Value).toArray) (va_runS (As := [.ref q0, .int (-1000000)]) (rest := []) (n := 2) ⟨hx, hb, hml, hown, hgd⟩ (kc_fill l D cy q0 H.size 6 (by decide) (fun _ => 0) (-1000000)) ⟨callB_of (own := "TableArms$Table") (index := 29) (y := yK_fill) 2 hgd gK_fill rfl rfl rfl (hgd _ iK_fill) (hgd _ (wAt_gd (i := 157) (by decide +kernel))) (by decide +kernel) ⟨Nat.le_of_ble_eq_true rfl, Nat.le_of_ble_eq_true rfl⟩, hgd _ sK_fill⟩ ⟨PcK_blind, fun U hU hW => ⟨rfl, by rw [hU], by rw [hU]; exact hPc, hKC.warm hW, hDc.weaken (fun _ _ _ _ => trivial)⟩⟩ rfl rfl hl.1 rfl (lv_room (Nat.le_of_ble_eq_true rfl)) (by decide +kernel : decode prog_11_method_1_code 47 = .ok (.invokestatic 29, 3)) ⟨Nat.le_of_ble_eq_true rfl, Nat.le_of_ble_eq_true rfl⟩) hS (fun q _ h => hFc q h) hFc (fun u t H1 locs ht hvm hw hB hz1 hk1 hS => ?_)
  subst hw
  obtain ⟨hP1, hD1⟩ := hB
  rw [ht] at hP1
  obtain ⟨hP, hD⟩ := va_join (wr := [(h0, .inr (3, [.ref st, .ref q0, .ref q1, .ref q2, .ref q3])), (q1, .inl (cy 0, 6, .inl (fun _ => 0))), (q2, .inl (cy 0, 6, .inl (fun _ => 0))), (q3, .inl (cy 0, 8, .inl (fun _ => 0)))]) (w1 := [(q0, .inl (cy 0, 6, .inl (fl (fun _ => 0) (-1000000) 6)))]) hP hD [1] [0, 2, 3, 4] rfl rfl (by decide) (by decide) hk1 hFc hP1 hD1
  clear hk1 hP1 hD1 hz1 ht hvm hPc hDc hFc
  generalize H1 = H at hP hS ⊢
  have hP : va_P D clL [(h0, .inr (3, [.ref st, .ref q0, .ref q1, .ref q2, .ref q3])), (q1, .inl (cy 0, 6, .inl (fun _ => 0))), (q2, .inl (cy 0, 6, .inl (fun _ => 0))), (q3, .inl (cy 0, 8, .inl (fun _ => 0))), (q0, .inl (cy 0, 6, .inl (fl (fun _ => 0) (-1000000) 6)))] H := hP
  have hD : va_D A [(h0, .inr (3, [.ref st, .ref q0, .ref q1, .ref q2, .ref q3])), (q1, .inl (cy 0, 6, .inl (fun _ => 0))), (q2, .inl (cy 0, 6, .inl (fun _ => 0))), (q3, .inl (cy 0, 8, .inl (fun _ => 0))), (q0, .inl (cy 0, 6, .inl (fl (fun _ => 0) (-1000000) 6)))] := hD
  refine lv_aload_n hx hb (by decide +kernel : decode prog_11_method_1_code 50 = .ok (.aload_n 0, 1)) rfl (lv_at hl 0 rfl) ?_
  refine va_get (D := D) (cl := clL) (tys := tysC cy) (own := "TableArms$Table") (ref := "TableArms$Table") (ci := 3) (v := .ref q1) (C := clC 8) (T := clT 8) (N := 5) hx hb hgd (sf_lay (t := 8) (by decide)) hown hK hP 0 rfl (cl_at 8 (by decide)) 2 (by decide) (hgd (Cond.fieldLink "TableArms$Table" 15 "TableArms$Table" "belows" "[I") (wAt_gd (i := 160) (by decide +kernel))) (fun _ h => h) rfl (by decide +kernel : decode prog_11_method_1_code 51 = .ok (.getfield 15, 3)) ?_
  refine lv_ldc (own := "TableArms$Table") (v := -1000000) hx hb hown (hgd _ (wAt_gd (i := 156) (by decide +kernel))) (by decide +kernel : decode prog_11_method_1_code 54 = .ok (.ldc 28, 2)) ?_
  have hPc := hP.sub (ws' := [(q1, .inl (cy 0, 6, .inl (fun _ => 0)))]) [1] rfl
  have hDc := hD.sub (ws' := [(q1, .inl (cy 0, 6, .inl (fun _ => 0)))]) [1] (by decide) rfl
  have hFc := va_free (wc := [(q1, .inl (cy 0, 6, .inl (fun _ => 0)))]) hD hS hA [1] rfl
  refine va_callv (a := ([.ref q1, .int (-1000000)] : List Value).toArray) (va_runS (As := [.ref q1, .int (-1000000)]) (rest := []) (n := 2) ⟨hx, hb, hml, hown, hgd⟩ (kc_fill l D cy q1 H.size 6 (by decide) (fun _ => 0) (-1000000)) ⟨callB_of (own := "TableArms$Table") (index := 29) (y := yK_fill) 2 hgd gK_fill rfl rfl rfl (hgd _ iK_fill) (hgd _ (wAt_gd (i := 157) (by decide +kernel))) (by decide +kernel) ⟨Nat.le_of_ble_eq_true rfl, Nat.le_of_ble_eq_true rfl⟩, hgd _ sK_fill⟩ ⟨PcK_blind, fun U hU hW => ⟨rfl, by rw [hU], by rw [hU]; exact hPc, hKC.warm hW, hDc.weaken (fun _ _ _ _ => trivial)⟩⟩ rfl rfl hl.1 rfl (lv_room (Nat.le_of_ble_eq_true rfl)) (by decide +kernel : decode prog_11_method_1_code 56 = .ok (.invokestatic 29, 3)) ⟨Nat.le_of_ble_eq_true rfl, Nat.le_of_ble_eq_true rfl⟩) hS (fun q _ h => hFc q h) hFc (fun u t H1 locs ht hvm hw hB hz1 hk1 hS => ?_)
  subst hw
  obtain ⟨hP1, hD1⟩ := hB
  rw [ht] at hP1
  obtain ⟨hP, hD⟩ := va_join (wr := [(h0, .inr (3, [.ref st, .ref q0, .ref q1, .ref q2, .ref q3])), (q2, .inl (cy 0, 6, .inl (fun _ => 0))), (q3, .inl (cy 0, 8, .inl (fun _ => 0))), (q0, .inl (cy 0, 6, .inl (fl (fun _ => 0) (-1000000) 6)))]) (w1 := [(q1, .inl (cy 0, 6, .inl (fl (fun _ => 0) (-1000000) 6)))]) hP hD [1] [0, 2, 3, 4] rfl rfl (by decide) (by decide) hk1 hFc hP1 hD1
  clear hk1 hP1 hD1 hz1 ht hvm hPc hDc hFc
  generalize H1 = H at hP hS ⊢
  have hP : va_P D clL [(h0, .inr (3, [.ref st, .ref q0, .ref q1, .ref q2, .ref q3])), (q2, .inl (cy 0, 6, .inl (fun _ => 0))), (q3, .inl (cy 0, 8, .inl (fun _ => 0))), (q0, .inl (cy 0, 6, .inl (fl (fun _ => 0) (-1000000) 6))), (q1, .inl (cy 0, 6, .inl (fl (fun _ => 0) (-1000000) 6)))] H := hP
  have hD : va_D A [(h0, .inr (3, [.ref st, .ref q0, .ref q1, .ref q2, .ref q3])), (q2, .inl (cy 0, 6, .inl (fun _ => 0))), (q3, .inl (cy 0, 8, .inl (fun _ => 0))), (q0, .inl (cy 0, 6, .inl (fl (fun _ => 0) (-1000000) 6))), (q1, .inl (cy 0, 6, .inl (fl (fun _ => 0) (-1000000) 6)))] := hD
  refine lv_aload_n hx hb (by decide +kernel : decode prog_11_method_1_code 59 = .ok (.aload_n 0, 1)) rfl (lv_at hl 0 rfl) ?_
  refine va_get (D := D) (cl := clL) (tys := tysC cy) (own := "TableArms$Table") (ref := "TableArms$Table") (ci := 3) (v := .ref q2) (C := clC 8) (T := clT 8) (N := 5) hx hb hgd (sf_lay (t := 8) (by decide)) hown hK hP 0 rfl (cl_at 8 (by decide)) 3 (by decide) (hgd (Cond.fieldLink "TableArms$Table" 18 "TableArms$Table" "insides" "[I") (wAt_gd (i := 161) (by decide +kernel))) (fun _ h => h) rfl (by decide +kernel : decode prog_11_method_1_code 60 = .ok (.getfield 18, 3)) ?_
  refine lv_ldc (own := "TableArms$Table") (v := -1000000) hx hb hown (hgd _ (wAt_gd (i := 156) (by decide +kernel))) (by decide +kernel : decode prog_11_method_1_code 63 = .ok (.ldc 28, 2)) ?_
  have hPc := hP.sub (ws' := [(q2, .inl (cy 0, 6, .inl (fun _ => 0)))]) [1] rfl
  have hDc := hD.sub (ws' := [(q2, .inl (cy 0, 6, .inl (fun _ => 0)))]) [1] (by decide) rfl
  have hFc := va_free (wc := [(q2, .inl (cy 0, 6, .inl (fun _ => 0)))]) hD hS hA [1] rfl
  refine va_callv (a := ([.ref q2, .int (-1000000)] : List Value).toArray) (va_runS (As := [.ref q2, .int (-1000000)]) (rest := []) (n := 2) ⟨hx, hb, hml, hown, hgd⟩ (kc_fill l D cy q2 H.size 6 (by decide) (fun _ => 0) (-1000000)) ⟨callB_of (own := "TableArms$Table") (index := 29) (y := yK_fill) 2 hgd gK_fill rfl rfl rfl (hgd _ iK_fill) (hgd _ (wAt_gd (i := 157) (by decide +kernel))) (by decide +kernel) ⟨Nat.le_of_ble_eq_true rfl, Nat.le_of_ble_eq_true rfl⟩, hgd _ sK_fill⟩ ⟨PcK_blind, fun U hU hW => ⟨rfl, by rw [hU], by rw [hU]; exact hPc, hKC.warm hW, hDc.weaken (fun _ _ _ _ => trivial)⟩⟩ rfl rfl hl.1 rfl (lv_room (Nat.le_of_ble_eq_true rfl)) (by decide +kernel : decode prog_11_method_1_code 65 = .ok (.invokestatic 29, 3)) ⟨Nat.le_of_ble_eq_true rfl, Nat.le_of_ble_eq_true rfl⟩) hS (fun q _ h => hFc q h) hFc (fun u t H1 locs ht hvm hw hB hz1 hk1 hS => ?_)
  subst hw
  obtain ⟨hP1, hD1⟩ := hB
  rw [ht] at hP1
  obtain ⟨hP, hD⟩ := va_join (wr := [(h0, .inr (3, [.ref st, .ref q0, .ref q1, .ref q2, .ref q3])), (q3, .inl (cy 0, 8, .inl (fun _ => 0))), (q0, .inl (cy 0, 6, .inl (fl (fun _ => 0) (-1000000) 6))), (q1, .inl (cy 0, 6, .inl (fl (fun _ => 0) (-1000000) 6)))]) (w1 := [(q2, .inl (cy 0, 6, .inl (fl (fun _ => 0) (-1000000) 6)))]) hP hD [1] [0, 2, 3, 4] rfl rfl (by decide) (by decide) hk1 hFc hP1 hD1
  clear hk1 hP1 hD1 hz1 ht hvm hPc hDc hFc
  generalize H1 = H at hP hS ⊢
  have hP : va_P D clL [(h0, .inr (3, [.ref st, .ref q0, .ref q1, .ref q2, .ref q3])), (q3, .inl (cy 0, 8, .inl (fun _ => 0))), (q0, .inl (cy 0, 6, .inl (fl (fun _ => 0) (-1000000) 6))), (q1, .inl (cy 0, 6, .inl (fl (fun _ => 0) (-1000000) 6))), (q2, .inl (cy 0, 6, .inl (fl (fun _ => 0) (-1000000) 6)))] H := hP
  have hD : va_D A [(h0, .inr (3, [.ref st, .ref q0, .ref q1, .ref q2, .ref q3])), (q3, .inl (cy 0, 8, .inl (fun _ => 0))), (q0, .inl (cy 0, 6, .inl (fl (fun _ => 0) (-1000000) 6))), (q1, .inl (cy 0, 6, .inl (fl (fun _ => 0) (-1000000) 6))), (q2, .inl (cy 0, 6, .inl (fl (fun _ => 0) (-1000000) 6)))] := hD
  refine lv_aload_n hx hb (by decide +kernel : decode prog_11_method_1_code 68 = .ok (.aload_n 0, 1)) rfl (lv_at hl 0 rfl) ?_
  refine va_get (D := D) (cl := clL) (tys := tysC cy) (own := "TableArms$Table") (ref := "TableArms$Table") (ci := 3) (v := .ref q3) (C := clC 8) (T := clT 8) (N := 5) hx hb hgd (sf_lay (t := 8) (by decide)) hown hK hP 0 rfl (cl_at 8 (by decide)) 4 (by decide) (hgd (Cond.fieldLink "TableArms$Table" 21 "TableArms$Table" "tops" "[I") (wAt_gd (i := 162) (by decide +kernel))) (fun _ h => h) rfl (by decide +kernel : decode prog_11_method_1_code 69 = .ok (.getfield 21, 3)) ?_
  refine lv_ldc (own := "TableArms$Table") (v := -1000000) hx hb hown (hgd _ (wAt_gd (i := 156) (by decide +kernel))) (by decide +kernel : decode prog_11_method_1_code 72 = .ok (.ldc 28, 2)) ?_
  have hPc := hP.sub (ws' := [(q3, .inl (cy 0, 8, .inl (fun _ => 0)))]) [1] rfl
  have hDc := hD.sub (ws' := [(q3, .inl (cy 0, 8, .inl (fun _ => 0)))]) [1] (by decide) rfl
  have hFc := va_free (wc := [(q3, .inl (cy 0, 8, .inl (fun _ => 0)))]) hD hS hA [1] rfl
  refine va_callv (a := ([.ref q3, .int (-1000000)] : List Value).toArray) (va_runS (As := [.ref q3, .int (-1000000)]) (rest := []) (n := 2) ⟨hx, hb, hml, hown, hgd⟩ (kc_fill l D cy q3 H.size 8 (by decide) (fun _ => 0) (-1000000)) ⟨callB_of (own := "TableArms$Table") (index := 29) (y := yK_fill) 2 hgd gK_fill rfl rfl rfl (hgd _ iK_fill) (hgd _ (wAt_gd (i := 157) (by decide +kernel))) (by decide +kernel) ⟨Nat.le_of_ble_eq_true rfl, Nat.le_of_ble_eq_true rfl⟩, hgd _ sK_fill⟩ ⟨PcK_blind, fun U hU hW => ⟨rfl, by rw [hU], by rw [hU]; exact hPc, hKC.warm hW, hDc.weaken (fun _ _ _ _ => trivial)⟩⟩ rfl rfl hl.1 rfl (lv_room (Nat.le_of_ble_eq_true rfl)) (by decide +kernel : decode prog_11_method_1_code 74 = .ok (.invokestatic 29, 3)) ⟨Nat.le_of_ble_eq_true rfl, Nat.le_of_ble_eq_true rfl⟩) hS (fun q _ h => hFc q h) hFc (fun u t H1 locs ht hvm hw hB hz1 hk1 hS => ?_)
  subst hw
  obtain ⟨hP1, hD1⟩ := hB
  rw [ht] at hP1
  obtain ⟨hP, hD⟩ := va_join (wr := [(h0, .inr (3, [.ref st, .ref q0, .ref q1, .ref q2, .ref q3])), (q0, .inl (cy 0, 6, .inl (fl (fun _ => 0) (-1000000) 6))), (q1, .inl (cy 0, 6, .inl (fl (fun _ => 0) (-1000000) 6))), (q2, .inl (cy 0, 6, .inl (fl (fun _ => 0) (-1000000) 6)))]) (w1 := [(q3, .inl (cy 0, 8, .inl (fl (fun _ => 0) (-1000000) 8)))]) hP hD [1] [0, 2, 3, 4] rfl rfl (by decide) (by decide) hk1 hFc hP1 hD1
  clear hk1 hP1 hD1 hz1 ht hvm hPc hDc hFc
  generalize H1 = H at hP hS ⊢
  have hP : va_P D clL [(h0, .inr (3, [.ref st, .ref q0, .ref q1, .ref q2, .ref q3])), (q0, .inl (cy 0, 6, .inl (fl (fun _ => 0) (-1000000) 6))), (q1, .inl (cy 0, 6, .inl (fl (fun _ => 0) (-1000000) 6))), (q2, .inl (cy 0, 6, .inl (fl (fun _ => 0) (-1000000) 6))), (q3, .inl (cy 0, 8, .inl (fl (fun _ => 0) (-1000000) 8)))] H := hP
  have hD : va_D A [(h0, .inr (3, [.ref st, .ref q0, .ref q1, .ref q2, .ref q3])), (q0, .inl (cy 0, 6, .inl (fl (fun _ => 0) (-1000000) 6))), (q1, .inl (cy 0, 6, .inl (fl (fun _ => 0) (-1000000) 6))), (q2, .inl (cy 0, 6, .inl (fl (fun _ => 0) (-1000000) 6))), (q3, .inl (cy 0, 8, .inl (fl (fun _ => 0) (-1000000) 8)))] := hD
  exact W.vret hx hb hr (fun t ht hW => ⟨⟨_, rfl, ⟨q0, q1, q2, q3, rfl⟩, by show va_P D clL _ t.heap; rw [ht]; exact hP, by rw [hAe]; exact hD⟩, by rw [hAe]; exact hS.F ht⟩) hS.2.2 (by decide +kernel : decode prog_11_method_1_code 77 = .ok (.return_, 1))
def yC_13 : MethodName := ⟨"TableArms$Orders", "<init>", "(LTableArms$Stock;)V"⟩
def wC_13 : List Cond := Cond.code yC_13 prog_5_method_1_code 2 none :: gd
set_option maxRecDepth 100000 in
theorem cC_13 : Cond.code yC_13 prog_5_method_1_code 2 none ∈ gd := List.mem_filter.mpr ⟨List.mem_of_getElem? (i := 178) rfl, rfl⟩
theorem gC_13 : GoodIn gd wC_13 := by
  intro w hw
  rcases List.mem_cons.mp hw with rfl | h
  · exact ⟨cC_13, good_of_word (gd_good cC_13)⟩
  · exact ⟨h, good_of_word (gd_good h)⟩
theorem iC_13 : Cond.instanceMethod yC_13 ∈ gd := wAt_gd (i := 177) (by decide +kernel)
theorem nC_13 : Cond.initialized "TableArms$Orders" ∈ gd := wAt_gd (i := 90) (by decide +kernel)
theorem oC_13 : Cond.methodLink "TableArms$Orders" 3 objectInit ∈ gd := wAt_gd (i := 179) (by decide +kernel)
def pC_13 (cy : Nat → ClassId) (h0 st : Nat) : va_W → Prop := fun u => u = [(h0, .inr (4, [.ref st]))]
set_option maxHeartbeats 4000000 in
set_option maxRecDepth 100000 in
theorem kc_13 (l : Launch) (D : va_G) (cy : Nat → ClassId) (h0 sz : Nat) (st : Nat) : Met l yC_13 wC_13 { frames := 1, cells := 0, slots := 0, locals := 12 } (PcK D cy [(h0, .inr (4, [.null]))] sz [.ref h0, .ref st]) (QvK D [(h0, .inr (4, [.null]))] sz (pC_13 cy h0 st)) 0 0 (va_A [(h0, .inr (4, [.null]))] sz) := by
  refine Met.ofW (cc := prog_5_method_1_code) (maxL := 2) (ret := none) (by decide +kernel) rfl ?_
  intro p e s m args below meth c s₁ B hml hv
  obtain ⟨rfl, hsz, hP, hKC, hD0⟩ := hv
  have hx := B.exec
  have hb := B.bytes
  have hr := B.returns
  have hlocks := B.notSynchronized
  have hgd : ∀ w ∈ gd, w.before ([.ref h0, .ref st] : List Value).toArray s = true := fun w hw => atoms_spec (ws := wC_13) B.pre w (List.mem_cons_of_mem _ hw)
  have hown : s.vm.findClass "TableArms$Orders" = some m.cls := findClass_of_methodNamed B.named
  have hin : meth.name = "<init>" := (name_of_methodNamed B.named B.method).1
  have hK := hKC.1
  subst hsz
  have hD := hD0.self (sz := s.heap.size)
  generalize hAe : va_A [(h0, .inr (4, [.null]))] s.heap.size = A at hD ⊢
  have hA : ∀ q : Nat, s.heap.size ≤ q → A q := fun q h => by rw [← hAe]; exact Or.inr h
  have hS : va_S A s.heap s.heap [] := va_S.rf
  have hl := lv_entry ([.ref h0, .ref st]) (n := 2) (Nat.le_of_ble_eq_true rfl)
  rw [lg_entry_eq]
  generalize (lg_sl ([.ref h0, .ref st]) ++ List.replicate (2 - (lg_sl ([.ref h0, .ref st])).length) Slot.unset).toArray = ls at hl ⊢
  have hl : lv_has ls 2 [(0, .ref h0), (1, .ref st)] := hl
  refine lv_aload_n hx hb (by decide +kernel : decode prog_5_method_1_code 0 = .ok (.aload_n 0, 1)) rfl (lv_at hl 0 rfl) ?_
  refine W.objInit hx hb hown (hgd _ oC_13) (hgd _ oI) (hgd _ oK) rfl (by rw [hml]; exact hl.1) rfl (by decide +kernel : decode prog_5_method_1_code 1 = .ok (.invokespecial 3, 3)) (Nat.le_of_ble_eq_true rfl) (Nat.le_of_ble_eq_true rfl) ?_
  refine W.eq (g2 := F0 m 4 ls []) rfl ?_
  refine lv_aload_n hx hb (by decide +kernel : decode prog_5_method_1_code 4 = .ok (.aload_n 0, 1)) rfl (lv_at hl 0 rfl) ?_
  refine lv_aload_n hx hb (by decide +kernel : decode prog_5_method_1_code 5 = .ok (.aload_n 1, 1)) rfl (lv_at hl 1 rfl) ?_
  refine va_putF (ty := .object "TableArms$Stock") (D := D) (cl := clL) (tys := tysC cy) (own := "TableArms$Orders") (ref := "TableArms$Orders") (ci := 4) (v := .ref st) (C := clC 13) (T := clT 13) (N := 1) hx hb hgd (sf_lay (t := 13) (by decide)) (fun k => (parseFieldDescriptor (clT 13 k).2.2.1).getD .int) (ob_ty (t := 13) (by decide)) (ob_nm (t := 13) (by decide)) hown hK hP hD hS 0 rfl (cl_at 13 (by decide)) 0 (by decide) (hgd (Cond.fieldLink "TableArms$Orders" 9 "TableArms$Orders" "stock" "LTableArms$Stock;") (wAt_gd (i := 180) (by decide +kernel))) (fun _ h => h) rfl hin rfl (by decide +kernel) rfl rfl (Nat.le_of_ble_eq_true rfl) (by decide +kernel : decode prog_5_method_1_code 6 = .ok (.putfield 9, 3)) (fun H locs hP hD hS => ?_)
  have hP : va_P D clL [(h0, .inr (4, [.ref st]))] H := hP
  have hD : va_D A [(h0, .inr (4, [.ref st]))] := hD
  exact W.vret hx hb hr (fun t ht hW => ⟨⟨_, rfl, rfl, by show va_P D clL _ t.heap; rw [ht]; exact hP, by rw [hAe]; exact hD⟩, by rw [hAe]; exact hS.F ht⟩) hS.2.2 (by decide +kernel : decode prog_5_method_1_code 9 = .ok (.return_, 1))
def yC_20 : MethodName := ⟨"TableArms$Taught", "<init>", "(LTableArms$Shelf;)V"⟩
def wC_20 : List Cond := Cond.code yC_20 prog_12_method_1_code 2 none :: gd
set_option maxRecDepth 100000 in
theorem cC_20 : Cond.code yC_20 prog_12_method_1_code 2 none ∈ gd := List.mem_filter.mpr ⟨List.mem_of_getElem? (i := 248) rfl, rfl⟩
theorem gC_20 : GoodIn gd wC_20 := by
  intro w hw
  rcases List.mem_cons.mp hw with rfl | h
  · exact ⟨cC_20, good_of_word (gd_good cC_20)⟩
  · exact ⟨h, good_of_word (gd_good h)⟩
theorem iC_20 : Cond.instanceMethod yC_20 ∈ gd := wAt_gd (i := 247) (by decide +kernel)
theorem nC_20 : Cond.initialized "TableArms$Taught" ∈ gd := wAt_gd (i := 93) (by decide +kernel)
theorem oC_20 : Cond.methodLink "TableArms$Taught" 3 objectInit ∈ gd := wAt_gd (i := 249) (by decide +kernel)
def pC_20 (cy : Nat → ClassId) (h0 sh : Nat) : va_W → Prop := fun u => ∃ q0 q1 q2 q3 q4 q5 q6 : Nat, u = [(h0, .inr (7, [.ref sh, .ref q0, .ref q1, .ref q2, .ref q3, .ref q4, .ref q5, .ref q6, .int 0, .int 0])), (q0, .inl (cy 0, 8, .inl (fun _ => 0))), (q1, .inl (cy 0, 8, .inl (fun _ => 0))), (q2, .inl (cy 0, 8, .inl (fun _ => 0))), (q3, .inl (cy 0, 8, .inl (fun _ => 0))), (q4, .inl (cy 2, 8, .inl (fun _ => 0))), (q5, .inl (cy 0, 96, .inl (fun _ => 0))), (q6, .inl (cy 3, 96, .inr (.inl (fun _ => 0))))]
set_option maxHeartbeats 4000000 in
set_option maxRecDepth 100000 in
theorem kc_20 (l : Launch) (D : va_G) (cy : Nat → ClassId) (h0 sz : Nat) (sh : Nat) : Met l yC_20 wC_20 { frames := 1, cells := 7, slots := 232, locals := 12 } (PcK D cy [(h0, .inr (7, [.null, .null, .null, .null, .null, .null, .null, .null, .int 0, .int 0]))] sz [.ref h0, .ref sh]) (QvK D [(h0, .inr (7, [.null, .null, .null, .null, .null, .null, .null, .null, .int 0, .int 0]))] sz (pC_20 cy h0 sh)) 7 232 (va_A [(h0, .inr (7, [.null, .null, .null, .null, .null, .null, .null, .null, .int 0, .int 0]))] sz) := by
  refine Met.ofW (cc := prog_12_method_1_code) (maxL := 2) (ret := none) (by decide +kernel) rfl ?_
  intro p e s m args below meth c s₁ B hml hv
  obtain ⟨rfl, hsz, hP, hKC, hD0⟩ := hv
  have hx := B.exec
  have hb := B.bytes
  have hr := B.returns
  have hlocks := B.notSynchronized
  have hgd : ∀ w ∈ gd, w.before ([.ref h0, .ref sh] : List Value).toArray s = true := fun w hw => atoms_spec (ws := wC_20) B.pre w (List.mem_cons_of_mem _ hw)
  have hown : s.vm.findClass "TableArms$Taught" = some m.cls := findClass_of_methodNamed B.named
  have hin : meth.name = "<init>" := (name_of_methodNamed B.named B.method).1
  have hK := hKC.1
  subst hsz
  have hD := hD0.self (sz := s.heap.size)
  generalize hAe : va_A [(h0, .inr (7, [.null, .null, .null, .null, .null, .null, .null, .null, .int 0, .int 0]))] s.heap.size = A at hD ⊢
  have hA : ∀ q : Nat, s.heap.size ≤ q → A q := fun q h => by rw [← hAe]; exact Or.inr h
  have hS : va_S A s.heap s.heap [] := va_S.rf
  have hl := lv_entry ([.ref h0, .ref sh]) (n := 2) (Nat.le_of_ble_eq_true rfl)
  rw [lg_entry_eq]
  generalize (lg_sl ([.ref h0, .ref sh]) ++ List.replicate (2 - (lg_sl ([.ref h0, .ref sh])).length) Slot.unset).toArray = ls at hl ⊢
  have hl : lv_has ls 2 [(0, .ref h0), (1, .ref sh)] := hl
  refine lv_aload_n hx hb (by decide +kernel : decode prog_12_method_1_code 0 = .ok (.aload_n 0, 1)) rfl (lv_at hl 0 rfl) ?_
  refine W.objInit hx hb hown (hgd _ oC_20) (hgd _ oI) (hgd _ oK) rfl (by rw [hml]; exact hl.1) rfl (by decide +kernel : decode prog_12_method_1_code 1 = .ok (.invokespecial 3, 3)) (Nat.le_of_ble_eq_true rfl) (Nat.le_of_ble_eq_true rfl) ?_
  refine W.eq (g2 := F0 m 4 ls []) rfl ?_
  refine lv_aload_n hx hb (by decide +kernel : decode prog_12_method_1_code 4 = .ok (.aload_n 0, 1)) rfl (lv_at hl 0 rfl) ?_
  refine lv_bipush (v := 8) hx hb (by decide +kernel : decode prog_12_method_1_code 5 = .ok (.bipush 8, 2)) (by decide) ?_
  refine k_newI (N := 8) hx hb hgd hK hP hD hS hA (by decide) (by decide) (by decide) (Nat.le_of_ble_eq_true rfl) (Nat.le_of_ble_eq_true rfl) (by decide +kernel : decode prog_12_method_1_code 7 = .ok (.newarray .int, 2)) (fun q0 H hP hD hS => ?_)
  have hP : va_P D clL [(h0, .inr (7, [.null, .null, .null, .null, .null, .null, .null, .null, .int 0, .int 0])), (q0, .inl (cy 0, 8, .inl (fun _ => 0)))] H := hP
  have hD : va_D A [(h0, .inr (7, [.null, .null, .null, .null, .null, .null, .null, .null, .int 0, .int 0])), (q0, .inl (cy 0, 8, .inl (fun _ => 0)))] := hD
  refine va_putF (ty := .array .int) (D := D) (cl := clL) (tys := tysC cy) (own := "TableArms$Taught") (ref := "TableArms$Taught") (ci := 7) (v := .ref q0) (C := clC 20) (T := clT 20) (N := 10) hx hb hgd (sf_lay (t := 20) (by decide)) (fun k => (parseFieldDescriptor (clT 20 k).2.2.1).getD .int) (ob_ty (t := 20) (by decide)) (ob_nm (t := 20) (by decide)) hown hK hP hD hS 0 rfl (cl_at 20 (by decide)) 1 (by decide) (hgd (Cond.fieldLink "TableArms$Taught" 9 "TableArms$Taught" "starts" "[I") (wAt_gd (i := 251) (by decide +kernel))) (fun _ h => h) rfl hin rfl (by decide +kernel) rfl rfl (Nat.le_of_ble_eq_true rfl) (by decide +kernel : decode prog_12_method_1_code 9 = .ok (.putfield 9, 3)) (fun H locs hP hD hS => ?_)
  have hP : va_P D clL [(h0, .inr (7, [.null, .ref q0, .null, .null, .null, .null, .null, .null, .int 0, .int 0])), (q0, .inl (cy 0, 8, .inl (fun _ => 0)))] H := hP
  have hD : va_D A [(h0, .inr (7, [.null, .ref q0, .null, .null, .null, .null, .null, .null, .int 0, .int 0])), (q0, .inl (cy 0, 8, .inl (fun _ => 0)))] := hD
  refine lv_aload_n hx hb (by decide +kernel : decode prog_12_method_1_code 12 = .ok (.aload_n 0, 1)) rfl (lv_at hl 0 rfl) ?_
  refine lv_bipush (v := 8) hx hb (by decide +kernel : decode prog_12_method_1_code 13 = .ok (.bipush 8, 2)) (by decide) ?_
  refine k_newI (N := 8) hx hb hgd hK hP hD hS hA (by decide) (by decide) (by decide) (Nat.le_of_ble_eq_true rfl) (Nat.le_of_ble_eq_true rfl) (by decide +kernel : decode prog_12_method_1_code 15 = .ok (.newarray .int, 2)) (fun q1 H hP hD hS => ?_)
  have hP : va_P D clL [(h0, .inr (7, [.null, .ref q0, .null, .null, .null, .null, .null, .null, .int 0, .int 0])), (q0, .inl (cy 0, 8, .inl (fun _ => 0))), (q1, .inl (cy 0, 8, .inl (fun _ => 0)))] H := hP
  have hD : va_D A [(h0, .inr (7, [.null, .ref q0, .null, .null, .null, .null, .null, .null, .int 0, .int 0])), (q0, .inl (cy 0, 8, .inl (fun _ => 0))), (q1, .inl (cy 0, 8, .inl (fun _ => 0)))] := hD
  refine va_putF (ty := .array .int) (D := D) (cl := clL) (tys := tysC cy) (own := "TableArms$Taught") (ref := "TableArms$Taught") (ci := 7) (v := .ref q1) (C := clC 20) (T := clT 20) (N := 10) hx hb hgd (sf_lay (t := 20) (by decide)) (fun k => (parseFieldDescriptor (clT 20 k).2.2.1).getD .int) (ob_ty (t := 20) (by decide)) (ob_nm (t := 20) (by decide)) hown hK hP hD hS 0 rfl (cl_at 20 (by decide)) 2 (by decide) (hgd (Cond.fieldLink "TableArms$Taught" 15 "TableArms$Taught" "ends" "[I") (wAt_gd (i := 252) (by decide +kernel))) (fun _ h => h) rfl hin rfl (by decide +kernel) rfl rfl (Nat.le_of_ble_eq_true rfl) (by decide +kernel : decode prog_12_method_1_code 17 = .ok (.putfield 15, 3)) (fun H locs hP hD hS => ?_)
  have hP : va_P D clL [(h0, .inr (7, [.null, .ref q0, .ref q1, .null, .null, .null, .null, .null, .int 0, .int 0])), (q0, .inl (cy 0, 8, .inl (fun _ => 0))), (q1, .inl (cy 0, 8, .inl (fun _ => 0)))] H := hP
  have hD : va_D A [(h0, .inr (7, [.null, .ref q0, .ref q1, .null, .null, .null, .null, .null, .int 0, .int 0])), (q0, .inl (cy 0, 8, .inl (fun _ => 0))), (q1, .inl (cy 0, 8, .inl (fun _ => 0)))] := hD
  refine lv_aload_n hx hb (by decide +kernel : decode prog_12_method_1_code 20 = .ok (.aload_n 0, 1)) rfl (lv_at hl 0 rfl) ?_
  refine lv_bipush (v := 8) hx hb (by decide +kernel : decode prog_12_method_1_code 21 = .ok (.bipush 8, 2)) (by decide) ?_
  refine k_newI (N := 8) hx hb hgd hK hP hD hS hA (by decide) (by decide) (by decide) (Nat.le_of_ble_eq_true rfl) (Nat.le_of_ble_eq_true rfl) (by decide +kernel : decode prog_12_method_1_code 23 = .ok (.newarray .int, 2)) (fun q2 H hP hD hS => ?_)
  have hP : va_P D clL [(h0, .inr (7, [.null, .ref q0, .ref q1, .null, .null, .null, .null, .null, .int 0, .int 0])), (q0, .inl (cy 0, 8, .inl (fun _ => 0))), (q1, .inl (cy 0, 8, .inl (fun _ => 0))), (q2, .inl (cy 0, 8, .inl (fun _ => 0)))] H := hP
  have hD : va_D A [(h0, .inr (7, [.null, .ref q0, .ref q1, .null, .null, .null, .null, .null, .int 0, .int 0])), (q0, .inl (cy 0, 8, .inl (fun _ => 0))), (q1, .inl (cy 0, 8, .inl (fun _ => 0))), (q2, .inl (cy 0, 8, .inl (fun _ => 0)))] := hD
  refine va_putF (ty := .array .int) (D := D) (cl := clL) (tys := tysC cy) (own := "TableArms$Taught") (ref := "TableArms$Taught") (ci := 7) (v := .ref q2) (C := clC 20) (T := clT 20) (N := 10) hx hb hgd (sf_lay (t := 20) (by decide)) (fun k => (parseFieldDescriptor (clT 20 k).2.2.1).getD .int) (ob_ty (t := 20) (by decide)) (ob_nm (t := 20) (by decide)) hown hK hP hD hS 0 rfl (cl_at 20 (by decide)) 3 (by decide) (hgd (Cond.fieldLink "TableArms$Taught" 18 "TableArms$Taught" "noes" "[I") (wAt_gd (i := 253) (by decide +kernel))) (fun _ h => h) rfl hin rfl (by decide +kernel) rfl rfl (Nat.le_of_ble_eq_true rfl) (by decide +kernel : decode prog_12_method_1_code 25 = .ok (.putfield 18, 3)) (fun H locs hP hD hS => ?_)
  have hP : va_P D clL [(h0, .inr (7, [.null, .ref q0, .ref q1, .ref q2, .null, .null, .null, .null, .int 0, .int 0])), (q0, .inl (cy 0, 8, .inl (fun _ => 0))), (q1, .inl (cy 0, 8, .inl (fun _ => 0))), (q2, .inl (cy 0, 8, .inl (fun _ => 0)))] H := hP
  have hD : va_D A [(h0, .inr (7, [.null, .ref q0, .ref q1, .ref q2, .null, .null, .null, .null, .int 0, .int 0])), (q0, .inl (cy 0, 8, .inl (fun _ => 0))), (q1, .inl (cy 0, 8, .inl (fun _ => 0))), (q2, .inl (cy 0, 8, .inl (fun _ => 0)))] := hD
  refine lv_aload_n hx hb (by decide +kernel : decode prog_12_method_1_code 28 = .ok (.aload_n 0, 1)) rfl (lv_at hl 0 rfl) ?_
  refine lv_bipush (v := 8) hx hb (by decide +kernel : decode prog_12_method_1_code 29 = .ok (.bipush 8, 2)) (by decide) ?_
  refine k_newI (N := 8) hx hb hgd hK hP hD hS hA (by decide) (by decide) (by decide) (Nat.le_of_ble_eq_true rfl) (Nat.le_of_ble_eq_true rfl) (by decide +kernel : decode prog_12_method_1_code 31 = .ok (.newarray .int, 2)) (fun q3 H hP hD hS => ?_)
  have hP : va_P D clL [(h0, .inr (7, [.null, .ref q0, .ref q1, .ref q2, .null, .null, .null, .null, .int 0, .int 0])), (q0, .inl (cy 0, 8, .inl (fun _ => 0))), (q1, .inl (cy 0, 8, .inl (fun _ => 0))), (q2, .inl (cy 0, 8, .inl (fun _ => 0))), (q3, .inl (cy 0, 8, .inl (fun _ => 0)))] H := hP
  have hD : va_D A [(h0, .inr (7, [.null, .ref q0, .ref q1, .ref q2, .null, .null, .null, .null, .int 0, .int 0])), (q0, .inl (cy 0, 8, .inl (fun _ => 0))), (q1, .inl (cy 0, 8, .inl (fun _ => 0))), (q2, .inl (cy 0, 8, .inl (fun _ => 0))), (q3, .inl (cy 0, 8, .inl (fun _ => 0)))] := hD
  refine va_putF (ty := .array .int) (D := D) (cl := clL) (tys := tysC cy) (own := "TableArms$Taught") (ref := "TableArms$Taught") (ci := 7) (v := .ref q3) (C := clC 20) (T := clT 20) (N := 10) hx hb hgd (sf_lay (t := 20) (by decide)) (fun k => (parseFieldDescriptor (clT 20 k).2.2.1).getD .int) (ob_ty (t := 20) (by decide)) (ob_nm (t := 20) (by decide)) hown hK hP hD hS 0 rfl (cl_at 20 (by decide)) 4 (by decide) (hgd (Cond.fieldLink "TableArms$Taught" 21 "TableArms$Taught" "teachers" "[I") (wAt_gd (i := 254) (by decide +kernel))) (fun _ h => h) rfl hin rfl (by decide +kernel) rfl rfl (Nat.le_of_ble_eq_true rfl) (by decide +kernel : decode prog_12_method_1_code 33 = .ok (.putfield 21, 3)) (fun H locs hP hD hS => ?_)
  have hP : va_P D clL [(h0, .inr (7, [.null, .ref q0, .ref q1, .ref q2, .ref q3, .null, .null, .null, .int 0, .int 0])), (q0, .inl (cy 0, 8, .inl (fun _ => 0))), (q1, .inl (cy 0, 8, .inl (fun _ => 0))), (q2, .inl (cy 0, 8, .inl (fun _ => 0))), (q3, .inl (cy 0, 8, .inl (fun _ => 0)))] H := hP
  have hD : va_D A [(h0, .inr (7, [.null, .ref q0, .ref q1, .ref q2, .ref q3, .null, .null, .null, .int 0, .int 0])), (q0, .inl (cy 0, 8, .inl (fun _ => 0))), (q1, .inl (cy 0, 8, .inl (fun _ => 0))), (q2, .inl (cy 0, 8, .inl (fun _ => 0))), (q3, .inl (cy 0, 8, .inl (fun _ => 0)))] := hD
  refine lv_aload_n hx hb (by decide +kernel : decode prog_12_method_1_code 36 = .ok (.aload_n 0, 1)) rfl (lv_at hl 0 rfl) ?_
  refine lv_bipush (v := 8) hx hb (by decide +kernel : decode prog_12_method_1_code 37 = .ok (.bipush 8, 2)) (by decide) ?_
  refine k_newZ (N := 8) hx hb hgd hK hP hD hS hA (by decide) (by decide) (by decide) (Nat.le_of_ble_eq_true rfl) (Nat.le_of_ble_eq_true rfl) (by decide +kernel : decode prog_12_method_1_code 39 = .ok (.newarray .boolean, 2)) (fun q4 H hP hD hS => ?_)
  have hP : va_P D clL [(h0, .inr (7, [.null, .ref q0, .ref q1, .ref q2, .ref q3, .null, .null, .null, .int 0, .int 0])), (q0, .inl (cy 0, 8, .inl (fun _ => 0))), (q1, .inl (cy 0, 8, .inl (fun _ => 0))), (q2, .inl (cy 0, 8, .inl (fun _ => 0))), (q3, .inl (cy 0, 8, .inl (fun _ => 0))), (q4, .inl (cy 2, 8, .inl (fun _ => 0)))] H := hP
  have hD : va_D A [(h0, .inr (7, [.null, .ref q0, .ref q1, .ref q2, .ref q3, .null, .null, .null, .int 0, .int 0])), (q0, .inl (cy 0, 8, .inl (fun _ => 0))), (q1, .inl (cy 0, 8, .inl (fun _ => 0))), (q2, .inl (cy 0, 8, .inl (fun _ => 0))), (q3, .inl (cy 0, 8, .inl (fun _ => 0))), (q4, .inl (cy 2, 8, .inl (fun _ => 0)))] := hD
  refine va_putF (ty := .array .boolean) (D := D) (cl := clL) (tys := tysC cy) (own := "TableArms$Taught") (ref := "TableArms$Taught") (ci := 7) (v := .ref q4) (C := clC 20) (T := clT 20) (N := 10) hx hb hgd (sf_lay (t := 20) (by decide)) (fun k => (parseFieldDescriptor (clT 20 k).2.2.1).getD .int) (ob_ty (t := 20) (by decide)) (ob_nm (t := 20) (by decide)) hown hK hP hD hS 0 rfl (cl_at 20 (by decide)) 5 (by decide) (hgd (Cond.fieldLink "TableArms$Taught" 24 "TableArms$Taught" "stands" "[Z") (wAt_gd (i := 255) (by decide +kernel))) (fun _ h => h) rfl hin rfl (by decide +kernel) rfl rfl (Nat.le_of_ble_eq_true rfl) (by decide +kernel : decode prog_12_method_1_code 41 = .ok (.putfield 24, 3)) (fun H locs hP hD hS => ?_)
  have hP : va_P D clL [(h0, .inr (7, [.null, .ref q0, .ref q1, .ref q2, .ref q3, .ref q4, .null, .null, .int 0, .int 0])), (q0, .inl (cy 0, 8, .inl (fun _ => 0))), (q1, .inl (cy 0, 8, .inl (fun _ => 0))), (q2, .inl (cy 0, 8, .inl (fun _ => 0))), (q3, .inl (cy 0, 8, .inl (fun _ => 0))), (q4, .inl (cy 2, 8, .inl (fun _ => 0)))] H := hP
  have hD : va_D A [(h0, .inr (7, [.null, .ref q0, .ref q1, .ref q2, .ref q3, .ref q4, .null, .null, .int 0, .int 0])), (q0, .inl (cy 0, 8, .inl (fun _ => 0))), (q1, .inl (cy 0, 8, .inl (fun _ => 0))), (q2, .inl (cy 0, 8, .inl (fun _ => 0))), (q3, .inl (cy 0, 8, .inl (fun _ => 0))), (q4, .inl (cy 2, 8, .inl (fun _ => 0)))] := hD
  refine lv_aload_n hx hb (by decide +kernel : decode prog_12_method_1_code 44 = .ok (.aload_n 0, 1)) rfl (lv_at hl 0 rfl) ?_
  refine lv_bipush (v := 96) hx hb (by decide +kernel : decode prog_12_method_1_code 45 = .ok (.bipush 96, 2)) (by decide) ?_
  refine k_newI (N := 96) hx hb hgd hK hP hD hS hA (by decide) (by decide) (by decide) (Nat.le_of_ble_eq_true rfl) (Nat.le_of_ble_eq_true rfl) (by decide +kernel : decode prog_12_method_1_code 47 = .ok (.newarray .int, 2)) (fun q5 H hP hD hS => ?_)
  have hP : va_P D clL [(h0, .inr (7, [.null, .ref q0, .ref q1, .ref q2, .ref q3, .ref q4, .null, .null, .int 0, .int 0])), (q0, .inl (cy 0, 8, .inl (fun _ => 0))), (q1, .inl (cy 0, 8, .inl (fun _ => 0))), (q2, .inl (cy 0, 8, .inl (fun _ => 0))), (q3, .inl (cy 0, 8, .inl (fun _ => 0))), (q4, .inl (cy 2, 8, .inl (fun _ => 0))), (q5, .inl (cy 0, 96, .inl (fun _ => 0)))] H := hP
  have hD : va_D A [(h0, .inr (7, [.null, .ref q0, .ref q1, .ref q2, .ref q3, .ref q4, .null, .null, .int 0, .int 0])), (q0, .inl (cy 0, 8, .inl (fun _ => 0))), (q1, .inl (cy 0, 8, .inl (fun _ => 0))), (q2, .inl (cy 0, 8, .inl (fun _ => 0))), (q3, .inl (cy 0, 8, .inl (fun _ => 0))), (q4, .inl (cy 2, 8, .inl (fun _ => 0))), (q5, .inl (cy 0, 96, .inl (fun _ => 0)))] := hD
  refine va_putF (ty := .array .int) (D := D) (cl := clL) (tys := tysC cy) (own := "TableArms$Taught") (ref := "TableArms$Taught") (ci := 7) (v := .ref q5) (C := clC 20) (T := clT 20) (N := 10) hx hb hgd (sf_lay (t := 20) (by decide)) (fun k => (parseFieldDescriptor (clT 20 k).2.2.1).getD .int) (ob_ty (t := 20) (by decide)) (ob_nm (t := 20) (by decide)) hown hK hP hD hS 0 rfl (cl_at 20 (by decide)) 6 (by decide) (hgd (Cond.fieldLink "TableArms$Taught" 28 "TableArms$Taught" "fitting" "[I") (wAt_gd (i := 256) (by decide +kernel))) (fun _ h => h) rfl hin rfl (by decide +kernel) rfl rfl (Nat.le_of_ble_eq_true rfl) (by decide +kernel : decode prog_12_method_1_code 49 = .ok (.putfield 28, 3)) (fun H locs hP hD hS => ?_)
  have hP : va_P D clL [(h0, .inr (7, [.null, .ref q0, .ref q1, .ref q2, .ref q3, .ref q4, .ref q5, .null, .int 0, .int 0])), (q0, .inl (cy 0, 8, .inl (fun _ => 0))), (q1, .inl (cy 0, 8, .inl (fun _ => 0))), (q2, .inl (cy 0, 8, .inl (fun _ => 0))), (q3, .inl (cy 0, 8, .inl (fun _ => 0))), (q4, .inl (cy 2, 8, .inl (fun _ => 0))), (q5, .inl (cy 0, 96, .inl (fun _ => 0)))] H := hP
  have hD : va_D A [(h0, .inr (7, [.null, .ref q0, .ref q1, .ref q2, .ref q3, .ref q4, .ref q5, .null, .int 0, .int 0])), (q0, .inl (cy 0, 8, .inl (fun _ => 0))), (q1, .inl (cy 0, 8, .inl (fun _ => 0))), (q2, .inl (cy 0, 8, .inl (fun _ => 0))), (q3, .inl (cy 0, 8, .inl (fun _ => 0))), (q4, .inl (cy 2, 8, .inl (fun _ => 0))), (q5, .inl (cy 0, 96, .inl (fun _ => 0)))] := hD
  refine lv_aload_n hx hb (by decide +kernel : decode prog_12_method_1_code 52 = .ok (.aload_n 0, 1)) rfl (lv_at hl 0 rfl) ?_
  refine lv_bipush (v := 96) hx hb (by decide +kernel : decode prog_12_method_1_code 53 = .ok (.bipush 96, 2)) (by decide) ?_
  refine k_newJ (N := 96) hx hb hgd hK hP hD hS hA (by decide) (by decide) (by decide) (Nat.le_of_ble_eq_true rfl) (Nat.le_of_ble_eq_true rfl) (by decide +kernel : decode prog_12_method_1_code 55 = .ok (.newarray .long, 2)) (fun q6 H hP hD hS => ?_)
  have hP : va_P D clL [(h0, .inr (7, [.null, .ref q0, .ref q1, .ref q2, .ref q3, .ref q4, .ref q5, .null, .int 0, .int 0])), (q0, .inl (cy 0, 8, .inl (fun _ => 0))), (q1, .inl (cy 0, 8, .inl (fun _ => 0))), (q2, .inl (cy 0, 8, .inl (fun _ => 0))), (q3, .inl (cy 0, 8, .inl (fun _ => 0))), (q4, .inl (cy 2, 8, .inl (fun _ => 0))), (q5, .inl (cy 0, 96, .inl (fun _ => 0))), (q6, .inl (cy 3, 96, .inr (.inl (fun _ => 0))))] H := hP
  have hD : va_D A [(h0, .inr (7, [.null, .ref q0, .ref q1, .ref q2, .ref q3, .ref q4, .ref q5, .null, .int 0, .int 0])), (q0, .inl (cy 0, 8, .inl (fun _ => 0))), (q1, .inl (cy 0, 8, .inl (fun _ => 0))), (q2, .inl (cy 0, 8, .inl (fun _ => 0))), (q3, .inl (cy 0, 8, .inl (fun _ => 0))), (q4, .inl (cy 2, 8, .inl (fun _ => 0))), (q5, .inl (cy 0, 96, .inl (fun _ => 0))), (q6, .inl (cy 3, 96, .inr (.inl (fun _ => 0))))] := hD
  refine va_putF (ty := .array .long) (D := D) (cl := clL) (tys := tysC cy) (own := "TableArms$Taught") (ref := "TableArms$Taught") (ci := 7) (v := .ref q6) (C := clC 20) (T := clT 20) (N := 10) hx hb hgd (sf_lay (t := 20) (by decide)) (fun k => (parseFieldDescriptor (clT 20 k).2.2.1).getD .int) (ob_ty (t := 20) (by decide)) (ob_nm (t := 20) (by decide)) hown hK hP hD hS 0 rfl (cl_at 20 (by decide)) 7 (by decide) (hgd (Cond.fieldLink "TableArms$Taught" 31 "TableArms$Taught" "unlike" "[J") (wAt_gd (i := 257) (by decide +kernel))) (fun _ h => h) rfl hin rfl (by decide +kernel) rfl rfl (Nat.le_of_ble_eq_true rfl) (by decide +kernel : decode prog_12_method_1_code 57 = .ok (.putfield 31, 3)) (fun H locs hP hD hS => ?_)
  have hP : va_P D clL [(h0, .inr (7, [.null, .ref q0, .ref q1, .ref q2, .ref q3, .ref q4, .ref q5, .ref q6, .int 0, .int 0])), (q0, .inl (cy 0, 8, .inl (fun _ => 0))), (q1, .inl (cy 0, 8, .inl (fun _ => 0))), (q2, .inl (cy 0, 8, .inl (fun _ => 0))), (q3, .inl (cy 0, 8, .inl (fun _ => 0))), (q4, .inl (cy 2, 8, .inl (fun _ => 0))), (q5, .inl (cy 0, 96, .inl (fun _ => 0))), (q6, .inl (cy 3, 96, .inr (.inl (fun _ => 0))))] H := hP
  have hD : va_D A [(h0, .inr (7, [.null, .ref q0, .ref q1, .ref q2, .ref q3, .ref q4, .ref q5, .ref q6, .int 0, .int 0])), (q0, .inl (cy 0, 8, .inl (fun _ => 0))), (q1, .inl (cy 0, 8, .inl (fun _ => 0))), (q2, .inl (cy 0, 8, .inl (fun _ => 0))), (q3, .inl (cy 0, 8, .inl (fun _ => 0))), (q4, .inl (cy 2, 8, .inl (fun _ => 0))), (q5, .inl (cy 0, 96, .inl (fun _ => 0))), (q6, .inl (cy 3, 96, .inr (.inl (fun _ => 0))))] := hD
  refine lv_aload_n hx hb (by decide +kernel : decode prog_12_method_1_code 60 = .ok (.aload_n 0, 1)) rfl (lv_at hl 0 rfl) ?_
  refine lv_aload_n hx hb (by decide +kernel : decode prog_12_method_1_code 61 = .ok (.aload_n 1, 1)) rfl (lv_at hl 1 rfl) ?_
  refine va_putF (ty := .object "TableArms$Shelf") (D := D) (cl := clL) (tys := tysC cy) (own := "TableArms$Taught") (ref := "TableArms$Taught") (ci := 7) (v := .ref sh) (C := clC 20) (T := clT 20) (N := 10) hx hb hgd (sf_lay (t := 20) (by decide)) (fun k => (parseFieldDescriptor (clT 20 k).2.2.1).getD .int) (ob_ty (t := 20) (by decide)) (ob_nm (t := 20) (by decide)) hown hK hP hD hS 0 rfl (cl_at 20 (by decide)) 0 (by decide) (hgd (Cond.fieldLink "TableArms$Taught" 35 "TableArms$Taught" "shelf" "LTableArms$Shelf;") (wAt_gd (i := 250) (by decide +kernel))) (fun _ h => h) rfl hin rfl (by decide +kernel) rfl rfl (Nat.le_of_ble_eq_true rfl) (by decide +kernel : decode prog_12_method_1_code 62 = .ok (.putfield 35, 3)) (fun H locs hP hD hS => ?_)
  have hP : va_P D clL [(h0, .inr (7, [.ref sh, .ref q0, .ref q1, .ref q2, .ref q3, .ref q4, .ref q5, .ref q6, .int 0, .int 0])), (q0, .inl (cy 0, 8, .inl (fun _ => 0))), (q1, .inl (cy 0, 8, .inl (fun _ => 0))), (q2, .inl (cy 0, 8, .inl (fun _ => 0))), (q3, .inl (cy 0, 8, .inl (fun _ => 0))), (q4, .inl (cy 2, 8, .inl (fun _ => 0))), (q5, .inl (cy 0, 96, .inl (fun _ => 0))), (q6, .inl (cy 3, 96, .inr (.inl (fun _ => 0))))] H := hP
  have hD : va_D A [(h0, .inr (7, [.ref sh, .ref q0, .ref q1, .ref q2, .ref q3, .ref q4, .ref q5, .ref q6, .int 0, .int 0])), (q0, .inl (cy 0, 8, .inl (fun _ => 0))), (q1, .inl (cy 0, 8, .inl (fun _ => 0))), (q2, .inl (cy 0, 8, .inl (fun _ => 0))), (q3, .inl (cy 0, 8, .inl (fun _ => 0))), (q4, .inl (cy 2, 8, .inl (fun _ => 0))), (q5, .inl (cy 0, 96, .inl (fun _ => 0))), (q6, .inl (cy 3, 96, .inr (.inl (fun _ => 0))))] := hD
  exact W.vret hx hb hr (fun t ht hW => ⟨⟨_, rfl, ⟨q0, q1, q2, q3, q4, q5, q6, rfl⟩, by show va_P D clL _ t.heap; rw [ht]; exact hP, by rw [hAe]; exact hD⟩, by rw [hAe]; exact hS.F ht⟩) hS.2.2 (by decide +kernel : decode prog_12_method_1_code 65 = .ok (.return_, 1))
def yC_28 : MethodName := ⟨"TableArms$Rules", "<init>", "(LTableArms$Stock;)V"⟩
def wC_28 : List Cond := Cond.code yC_28 prog_7_method_1_code 2 none :: gd
set_option maxRecDepth 100000 in
theorem cC_28 : Cond.code yC_28 prog_7_method_1_code 2 none ∈ gd := List.mem_filter.mpr ⟨List.mem_of_getElem? (i := 286) rfl, rfl⟩
theorem gC_28 : GoodIn gd wC_28 := by
  intro w hw
  rcases List.mem_cons.mp hw with rfl | h
  · exact ⟨cC_28, good_of_word (gd_good cC_28)⟩
  · exact ⟨h, good_of_word (gd_good h)⟩
theorem iC_28 : Cond.instanceMethod yC_28 ∈ gd := wAt_gd (i := 285) (by decide +kernel)
theorem nC_28 : Cond.initialized "TableArms$Rules" ∈ gd := wAt_gd (i := 94) (by decide +kernel)
theorem oC_28 : Cond.methodLink "TableArms$Rules" 3 objectInit ∈ gd := wAt_gd (i := 287) (by decide +kernel)
def pC_28 (cy : Nat → ClassId) (h0 st : Nat) : va_W → Prop := fun u => ∃ q0 q1 q2 q3 : Nat, u = [(h0, .inr (8, [.ref st, .ref q0, .ref q1, .ref q2, .ref q3, .int 0, .int 0])), (q0, .inl (cy 0, 16, .inl (fun _ => 0))), (q1, .inl (cy 0, 16, .inl (fun _ => 0))), (q2, .inl (cy 0, 16, .inl (fun _ => 0))), (q3, .inl (cy 0, 16, .inl (fun _ => 0)))]
set_option maxHeartbeats 4000000 in
set_option maxRecDepth 100000 in
theorem kc_28 (l : Launch) (D : va_G) (cy : Nat → ClassId) (h0 sz : Nat) (st : Nat) : Met l yC_28 wC_28 { frames := 1, cells := 4, slots := 64, locals := 12 } (PcK D cy [(h0, .inr (8, [.null, .null, .null, .null, .null, .int 0, .int 0]))] sz [.ref h0, .ref st]) (QvK D [(h0, .inr (8, [.null, .null, .null, .null, .null, .int 0, .int 0]))] sz (pC_28 cy h0 st)) 4 64 (va_A [(h0, .inr (8, [.null, .null, .null, .null, .null, .int 0, .int 0]))] sz) := by
  refine Met.ofW (cc := prog_7_method_1_code) (maxL := 2) (ret := none) (by decide +kernel) rfl ?_
  intro p e s m args below meth c s₁ B hml hv
  obtain ⟨rfl, hsz, hP, hKC, hD0⟩ := hv
  have hx := B.exec
  have hb := B.bytes
  have hr := B.returns
  have hlocks := B.notSynchronized
  have hgd : ∀ w ∈ gd, w.before ([.ref h0, .ref st] : List Value).toArray s = true := fun w hw => atoms_spec (ws := wC_28) B.pre w (List.mem_cons_of_mem _ hw)
  have hown : s.vm.findClass "TableArms$Rules" = some m.cls := findClass_of_methodNamed B.named
  have hin : meth.name = "<init>" := (name_of_methodNamed B.named B.method).1
  have hK := hKC.1
  subst hsz
  have hD := hD0.self (sz := s.heap.size)
  generalize hAe : va_A [(h0, .inr (8, [.null, .null, .null, .null, .null, .int 0, .int 0]))] s.heap.size = A at hD ⊢
  have hA : ∀ q : Nat, s.heap.size ≤ q → A q := fun q h => by rw [← hAe]; exact Or.inr h
  have hS : va_S A s.heap s.heap [] := va_S.rf
  have hl := lv_entry ([.ref h0, .ref st]) (n := 2) (Nat.le_of_ble_eq_true rfl)
  rw [lg_entry_eq]
  generalize (lg_sl ([.ref h0, .ref st]) ++ List.replicate (2 - (lg_sl ([.ref h0, .ref st])).length) Slot.unset).toArray = ls at hl ⊢
  have hl : lv_has ls 2 [(0, .ref h0), (1, .ref st)] := hl
  refine lv_aload_n hx hb (by decide +kernel : decode prog_7_method_1_code 0 = .ok (.aload_n 0, 1)) rfl (lv_at hl 0 rfl) ?_
  refine W.objInit hx hb hown (hgd _ oC_28) (hgd _ oI) (hgd _ oK) rfl (by rw [hml]; exact hl.1) rfl (by decide +kernel : decode prog_7_method_1_code 1 = .ok (.invokespecial 3, 3)) (Nat.le_of_ble_eq_true rfl) (Nat.le_of_ble_eq_true rfl) ?_
  refine W.eq (g2 := F0 m 4 ls []) rfl ?_
  refine lv_aload_n hx hb (by decide +kernel : decode prog_7_method_1_code 4 = .ok (.aload_n 0, 1)) rfl (lv_at hl 0 rfl) ?_
  refine lv_bipush (v := 16) hx hb (by decide +kernel : decode prog_7_method_1_code 5 = .ok (.bipush 16, 2)) (by decide) ?_
  refine k_newI (N := 16) hx hb hgd hK hP hD hS hA (by decide) (by decide) (by decide) (Nat.le_of_ble_eq_true rfl) (Nat.le_of_ble_eq_true rfl) (by decide +kernel : decode prog_7_method_1_code 7 = .ok (.newarray .int, 2)) (fun q0 H hP hD hS => ?_)
  have hP : va_P D clL [(h0, .inr (8, [.null, .null, .null, .null, .null, .int 0, .int 0])), (q0, .inl (cy 0, 16, .inl (fun _ => 0)))] H := hP
  have hD : va_D A [(h0, .inr (8, [.null, .null, .null, .null, .null, .int 0, .int 0])), (q0, .inl (cy 0, 16, .inl (fun _ => 0)))] := hD
  refine va_putF (ty := .array .int) (D := D) (cl := clL) (tys := tysC cy) (own := "TableArms$Rules") (ref := "TableArms$Rules") (ci := 8) (v := .ref q0) (C := clC 28) (T := clT 28) (N := 7) hx hb hgd (sf_lay (t := 28) (by decide)) (fun k => (parseFieldDescriptor (clT 28 k).2.2.1).getD .int) (ob_ty (t := 28) (by decide)) (ob_nm (t := 28) (by decide)) hown hK hP hD hS 0 rfl (cl_at 28 (by decide)) 1 (by decide) (hgd (Cond.fieldLink "TableArms$Rules" 9 "TableArms$Rules" "forms" "[I") (wAt_gd (i := 289) (by decide +kernel))) (fun _ h => h) rfl hin rfl (by decide +kernel) rfl rfl (Nat.le_of_ble_eq_true rfl) (by decide +kernel : decode prog_7_method_1_code 9 = .ok (.putfield 9, 3)) (fun H locs hP hD hS => ?_)
  have hP : va_P D clL [(h0, .inr (8, [.null, .ref q0, .null, .null, .null, .int 0, .int 0])), (q0, .inl (cy 0, 16, .inl (fun _ => 0)))] H := hP
  have hD : va_D A [(h0, .inr (8, [.null, .ref q0, .null, .null, .null, .int 0, .int 0])), (q0, .inl (cy 0, 16, .inl (fun _ => 0)))] := hD
  refine lv_aload_n hx hb (by decide +kernel : decode prog_7_method_1_code 12 = .ok (.aload_n 0, 1)) rfl (lv_at hl 0 rfl) ?_
  refine lv_bipush (v := 16) hx hb (by decide +kernel : decode prog_7_method_1_code 13 = .ok (.bipush 16, 2)) (by decide) ?_
  refine k_newI (N := 16) hx hb hgd hK hP hD hS hA (by decide) (by decide) (by decide) (Nat.le_of_ble_eq_true rfl) (Nat.le_of_ble_eq_true rfl) (by decide +kernel : decode prog_7_method_1_code 15 = .ok (.newarray .int, 2)) (fun q1 H hP hD hS => ?_)
  have hP : va_P D clL [(h0, .inr (8, [.null, .ref q0, .null, .null, .null, .int 0, .int 0])), (q0, .inl (cy 0, 16, .inl (fun _ => 0))), (q1, .inl (cy 0, 16, .inl (fun _ => 0)))] H := hP
  have hD : va_D A [(h0, .inr (8, [.null, .ref q0, .null, .null, .null, .int 0, .int 0])), (q0, .inl (cy 0, 16, .inl (fun _ => 0))), (q1, .inl (cy 0, 16, .inl (fun _ => 0)))] := hD
  refine va_putF (ty := .array .int) (D := D) (cl := clL) (tys := tysC cy) (own := "TableArms$Rules") (ref := "TableArms$Rules") (ci := 8) (v := .ref q1) (C := clC 28) (T := clT 28) (N := 7) hx hb hgd (sf_lay (t := 28) (by decide)) (fun k => (parseFieldDescriptor (clT 28 k).2.2.1).getD .int) (ob_ty (t := 28) (by decide)) (ob_nm (t := 28) (by decide)) hown hK hP hD hS 0 rfl (cl_at 28 (by decide)) 2 (by decide) (hgd (Cond.fieldLink "TableArms$Rules" 15 "TableArms$Rules" "firsts" "[I") (wAt_gd (i := 290) (by decide +kernel))) (fun _ h => h) rfl hin rfl (by decide +kernel) rfl rfl (Nat.le_of_ble_eq_true rfl) (by decide +kernel : decode prog_7_method_1_code 17 = .ok (.putfield 15, 3)) (fun H locs hP hD hS => ?_)
  have hP : va_P D clL [(h0, .inr (8, [.null, .ref q0, .ref q1, .null, .null, .int 0, .int 0])), (q0, .inl (cy 0, 16, .inl (fun _ => 0))), (q1, .inl (cy 0, 16, .inl (fun _ => 0)))] H := hP
  have hD : va_D A [(h0, .inr (8, [.null, .ref q0, .ref q1, .null, .null, .int 0, .int 0])), (q0, .inl (cy 0, 16, .inl (fun _ => 0))), (q1, .inl (cy 0, 16, .inl (fun _ => 0)))] := hD
  refine lv_aload_n hx hb (by decide +kernel : decode prog_7_method_1_code 20 = .ok (.aload_n 0, 1)) rfl (lv_at hl 0 rfl) ?_
  refine lv_bipush (v := 16) hx hb (by decide +kernel : decode prog_7_method_1_code 21 = .ok (.bipush 16, 2)) (by decide) ?_
  refine k_newI (N := 16) hx hb hgd hK hP hD hS hA (by decide) (by decide) (by decide) (Nat.le_of_ble_eq_true rfl) (Nat.le_of_ble_eq_true rfl) (by decide +kernel : decode prog_7_method_1_code 23 = .ok (.newarray .int, 2)) (fun q2 H hP hD hS => ?_)
  have hP : va_P D clL [(h0, .inr (8, [.null, .ref q0, .ref q1, .null, .null, .int 0, .int 0])), (q0, .inl (cy 0, 16, .inl (fun _ => 0))), (q1, .inl (cy 0, 16, .inl (fun _ => 0))), (q2, .inl (cy 0, 16, .inl (fun _ => 0)))] H := hP
  have hD : va_D A [(h0, .inr (8, [.null, .ref q0, .ref q1, .null, .null, .int 0, .int 0])), (q0, .inl (cy 0, 16, .inl (fun _ => 0))), (q1, .inl (cy 0, 16, .inl (fun _ => 0))), (q2, .inl (cy 0, 16, .inl (fun _ => 0)))] := hD
  refine va_putF (ty := .array .int) (D := D) (cl := clL) (tys := tysC cy) (own := "TableArms$Rules") (ref := "TableArms$Rules") (ci := 8) (v := .ref q2) (C := clC 28) (T := clT 28) (N := 7) hx hb hgd (sf_lay (t := 28) (by decide)) (fun k => (parseFieldDescriptor (clT 28 k).2.2.1).getD .int) (ob_ty (t := 28) (by decide)) (ob_nm (t := 28) (by decide)) hown hK hP hD hS 0 rfl (cl_at 28 (by decide)) 3 (by decide) (hgd (Cond.fieldLink "TableArms$Rules" 18 "TableArms$Rules" "seconds" "[I") (wAt_gd (i := 291) (by decide +kernel))) (fun _ h => h) rfl hin rfl (by decide +kernel) rfl rfl (Nat.le_of_ble_eq_true rfl) (by decide +kernel : decode prog_7_method_1_code 25 = .ok (.putfield 18, 3)) (fun H locs hP hD hS => ?_)
  have hP : va_P D clL [(h0, .inr (8, [.null, .ref q0, .ref q1, .ref q2, .null, .int 0, .int 0])), (q0, .inl (cy 0, 16, .inl (fun _ => 0))), (q1, .inl (cy 0, 16, .inl (fun _ => 0))), (q2, .inl (cy 0, 16, .inl (fun _ => 0)))] H := hP
  have hD : va_D A [(h0, .inr (8, [.null, .ref q0, .ref q1, .ref q2, .null, .int 0, .int 0])), (q0, .inl (cy 0, 16, .inl (fun _ => 0))), (q1, .inl (cy 0, 16, .inl (fun _ => 0))), (q2, .inl (cy 0, 16, .inl (fun _ => 0)))] := hD
  refine lv_aload_n hx hb (by decide +kernel : decode prog_7_method_1_code 28 = .ok (.aload_n 0, 1)) rfl (lv_at hl 0 rfl) ?_
  refine lv_bipush (v := 16) hx hb (by decide +kernel : decode prog_7_method_1_code 29 = .ok (.bipush 16, 2)) (by decide) ?_
  refine k_newI (N := 16) hx hb hgd hK hP hD hS hA (by decide) (by decide) (by decide) (Nat.le_of_ble_eq_true rfl) (Nat.le_of_ble_eq_true rfl) (by decide +kernel : decode prog_7_method_1_code 31 = .ok (.newarray .int, 2)) (fun q3 H hP hD hS => ?_)
  have hP : va_P D clL [(h0, .inr (8, [.null, .ref q0, .ref q1, .ref q2, .null, .int 0, .int 0])), (q0, .inl (cy 0, 16, .inl (fun _ => 0))), (q1, .inl (cy 0, 16, .inl (fun _ => 0))), (q2, .inl (cy 0, 16, .inl (fun _ => 0))), (q3, .inl (cy 0, 16, .inl (fun _ => 0)))] H := hP
  have hD : va_D A [(h0, .inr (8, [.null, .ref q0, .ref q1, .ref q2, .null, .int 0, .int 0])), (q0, .inl (cy 0, 16, .inl (fun _ => 0))), (q1, .inl (cy 0, 16, .inl (fun _ => 0))), (q2, .inl (cy 0, 16, .inl (fun _ => 0))), (q3, .inl (cy 0, 16, .inl (fun _ => 0)))] := hD
  refine va_putF (ty := .array .int) (D := D) (cl := clL) (tys := tysC cy) (own := "TableArms$Rules") (ref := "TableArms$Rules") (ci := 8) (v := .ref q3) (C := clC 28) (T := clT 28) (N := 7) hx hb hgd (sf_lay (t := 28) (by decide)) (fun k => (parseFieldDescriptor (clT 28 k).2.2.1).getD .int) (ob_ty (t := 28) (by decide)) (ob_nm (t := 28) (by decide)) hown hK hP hD hS 0 rfl (cl_at 28 (by decide)) 4 (by decide) (hgd (Cond.fieldLink "TableArms$Rules" 21 "TableArms$Rules" "thirds" "[I") (wAt_gd (i := 292) (by decide +kernel))) (fun _ h => h) rfl hin rfl (by decide +kernel) rfl rfl (Nat.le_of_ble_eq_true rfl) (by decide +kernel : decode prog_7_method_1_code 33 = .ok (.putfield 21, 3)) (fun H locs hP hD hS => ?_)
  have hP : va_P D clL [(h0, .inr (8, [.null, .ref q0, .ref q1, .ref q2, .ref q3, .int 0, .int 0])), (q0, .inl (cy 0, 16, .inl (fun _ => 0))), (q1, .inl (cy 0, 16, .inl (fun _ => 0))), (q2, .inl (cy 0, 16, .inl (fun _ => 0))), (q3, .inl (cy 0, 16, .inl (fun _ => 0)))] H := hP
  have hD : va_D A [(h0, .inr (8, [.null, .ref q0, .ref q1, .ref q2, .ref q3, .int 0, .int 0])), (q0, .inl (cy 0, 16, .inl (fun _ => 0))), (q1, .inl (cy 0, 16, .inl (fun _ => 0))), (q2, .inl (cy 0, 16, .inl (fun _ => 0))), (q3, .inl (cy 0, 16, .inl (fun _ => 0)))] := hD
  refine lv_aload_n hx hb (by decide +kernel : decode prog_7_method_1_code 36 = .ok (.aload_n 0, 1)) rfl (lv_at hl 0 rfl) ?_
  refine lv_aload_n hx hb (by decide +kernel : decode prog_7_method_1_code 37 = .ok (.aload_n 1, 1)) rfl (lv_at hl 1 rfl) ?_
  refine va_putF (ty := .object "TableArms$Stock") (D := D) (cl := clL) (tys := tysC cy) (own := "TableArms$Rules") (ref := "TableArms$Rules") (ci := 8) (v := .ref st) (C := clC 28) (T := clT 28) (N := 7) hx hb hgd (sf_lay (t := 28) (by decide)) (fun k => (parseFieldDescriptor (clT 28 k).2.2.1).getD .int) (ob_ty (t := 28) (by decide)) (ob_nm (t := 28) (by decide)) hown hK hP hD hS 0 rfl (cl_at 28 (by decide)) 0 (by decide) (hgd (Cond.fieldLink "TableArms$Rules" 24 "TableArms$Rules" "stock" "LTableArms$Stock;") (wAt_gd (i := 288) (by decide +kernel))) (fun _ h => h) rfl hin rfl (by decide +kernel) rfl rfl (Nat.le_of_ble_eq_true rfl) (by decide +kernel : decode prog_7_method_1_code 38 = .ok (.putfield 24, 3)) (fun H locs hP hD hS => ?_)
  have hP : va_P D clL [(h0, .inr (8, [.ref st, .ref q0, .ref q1, .ref q2, .ref q3, .int 0, .int 0])), (q0, .inl (cy 0, 16, .inl (fun _ => 0))), (q1, .inl (cy 0, 16, .inl (fun _ => 0))), (q2, .inl (cy 0, 16, .inl (fun _ => 0))), (q3, .inl (cy 0, 16, .inl (fun _ => 0)))] H := hP
  have hD : va_D A [(h0, .inr (8, [.ref st, .ref q0, .ref q1, .ref q2, .ref q3, .int 0, .int 0])), (q0, .inl (cy 0, 16, .inl (fun _ => 0))), (q1, .inl (cy 0, 16, .inl (fun _ => 0))), (q2, .inl (cy 0, 16, .inl (fun _ => 0))), (q3, .inl (cy 0, 16, .inl (fun _ => 0)))] := hD
  exact W.vret hx hb hr (fun t ht hW => ⟨⟨_, rfl, ⟨q0, q1, q2, q3, rfl⟩, by show va_P D clL _ t.heap; rw [ht]; exact hP, by rw [hAe]; exact hD⟩, by rw [hAe]; exact hS.F ht⟩) hS.2.2 (by decide +kernel : decode prog_7_method_1_code 41 = .ok (.return_, 1))
def yC_33 : MethodName := ⟨"TableArms$Reader", "<init>", "(LTableArms$Rules;)V"⟩
def wC_33 : List Cond := Cond.code yC_33 prog_6_method_1_code 2 none :: gd
set_option maxRecDepth 100000 in
theorem cC_33 : Cond.code yC_33 prog_6_method_1_code 2 none ∈ gd := List.mem_filter.mpr ⟨List.mem_of_getElem? (i := 314) rfl, rfl⟩
theorem gC_33 : GoodIn gd wC_33 := by
  intro w hw
  rcases List.mem_cons.mp hw with rfl | h
  · exact ⟨cC_33, good_of_word (gd_good cC_33)⟩
  · exact ⟨h, good_of_word (gd_good h)⟩
theorem iC_33 : Cond.instanceMethod yC_33 ∈ gd := wAt_gd (i := 313) (by decide +kernel)
theorem nC_33 : Cond.initialized "TableArms$Reader" ∈ gd := wAt_gd (i := 95) (by decide +kernel)
theorem oC_33 : Cond.methodLink "TableArms$Reader" 3 objectInit ∈ gd := wAt_gd (i := 315) (by decide +kernel)
def pC_33 (cy : Nat → ClassId) (h0 ru : Nat) : va_W → Prop := fun u => ∃ q0 : Nat, u = [(h0, .inr (9, [.ref ru, .ref q0, .int 0, .int 0, .int 0, .int 0, .int 0, .int 0])), (q0, .inl (cy 1, 300, .inl (fun _ => 0)))]
set_option maxHeartbeats 4000000 in
set_option maxRecDepth 100000 in
theorem kc_33 (l : Launch) (D : va_G) (cy : Nat → ClassId) (h0 sz : Nat) (ru : Nat) : Met l yC_33 wC_33 { frames := 1, cells := 1, slots := 300, locals := 12 } (PcK D cy [(h0, .inr (9, [.null, .null, .int 0, .int 0, .int 0, .int 0, .int 0, .int 0]))] sz [.ref h0, .ref ru]) (QvK D [(h0, .inr (9, [.null, .null, .int 0, .int 0, .int 0, .int 0, .int 0, .int 0]))] sz (pC_33 cy h0 ru)) 1 300 (va_A [(h0, .inr (9, [.null, .null, .int 0, .int 0, .int 0, .int 0, .int 0, .int 0]))] sz) := by
  refine Met.ofW (cc := prog_6_method_1_code) (maxL := 2) (ret := none) (by decide +kernel) rfl ?_
  intro p e s m args below meth c s₁ B hml hv
  obtain ⟨rfl, hsz, hP, hKC, hD0⟩ := hv
  have hx := B.exec
  have hb := B.bytes
  have hr := B.returns
  have hlocks := B.notSynchronized
  have hgd : ∀ w ∈ gd, w.before ([.ref h0, .ref ru] : List Value).toArray s = true := fun w hw => atoms_spec (ws := wC_33) B.pre w (List.mem_cons_of_mem _ hw)
  have hown : s.vm.findClass "TableArms$Reader" = some m.cls := findClass_of_methodNamed B.named
  have hin : meth.name = "<init>" := (name_of_methodNamed B.named B.method).1
  have hK := hKC.1
  subst hsz
  have hD := hD0.self (sz := s.heap.size)
  generalize hAe : va_A [(h0, .inr (9, [.null, .null, .int 0, .int 0, .int 0, .int 0, .int 0, .int 0]))] s.heap.size = A at hD ⊢
  have hA : ∀ q : Nat, s.heap.size ≤ q → A q := fun q h => by rw [← hAe]; exact Or.inr h
  have hS : va_S A s.heap s.heap [] := va_S.rf
  have hl := lv_entry ([.ref h0, .ref ru]) (n := 2) (Nat.le_of_ble_eq_true rfl)
  rw [lg_entry_eq]
  generalize (lg_sl ([.ref h0, .ref ru]) ++ List.replicate (2 - (lg_sl ([.ref h0, .ref ru])).length) Slot.unset).toArray = ls at hl ⊢
  have hl : lv_has ls 2 [(0, .ref h0), (1, .ref ru)] := hl
  refine lv_aload_n hx hb (by decide +kernel : decode prog_6_method_1_code 0 = .ok (.aload_n 0, 1)) rfl (lv_at hl 0 rfl) ?_
  refine W.objInit hx hb hown (hgd _ oC_33) (hgd _ oI) (hgd _ oK) rfl (by rw [hml]; exact hl.1) rfl (by decide +kernel : decode prog_6_method_1_code 1 = .ok (.invokespecial 3, 3)) (Nat.le_of_ble_eq_true rfl) (Nat.le_of_ble_eq_true rfl) ?_
  refine W.eq (g2 := F0 m 4 ls []) rfl ?_
  refine lv_aload_n hx hb (by decide +kernel : decode prog_6_method_1_code 4 = .ok (.aload_n 0, 1)) rfl (lv_at hl 0 rfl) ?_
  refine lv_sipush (v := 300) hx hb (by decide +kernel : decode prog_6_method_1_code 5 = .ok (.sipush 300, 3)) (by decide) ?_
  refine k_newB (N := 300) hx hb hgd hK hP hD hS hA (by decide) (by decide) (by decide) (Nat.le_of_ble_eq_true rfl) (Nat.le_of_ble_eq_true rfl) (by decide +kernel : decode prog_6_method_1_code 8 = .ok (.newarray .byte, 2)) (fun q0 H hP hD hS => ?_)
  have hP : va_P D clL [(h0, .inr (9, [.null, .null, .int 0, .int 0, .int 0, .int 0, .int 0, .int 0])), (q0, .inl (cy 1, 300, .inl (fun _ => 0)))] H := hP
  have hD : va_D A [(h0, .inr (9, [.null, .null, .int 0, .int 0, .int 0, .int 0, .int 0, .int 0])), (q0, .inl (cy 1, 300, .inl (fun _ => 0)))] := hD
  refine va_putF (ty := .array .byte) (D := D) (cl := clL) (tys := tysC cy) (own := "TableArms$Reader") (ref := "TableArms$Reader") (ci := 9) (v := .ref q0) (C := clC 33) (T := clT 33) (N := 8) hx hb hgd (sf_lay (t := 33) (by decide)) (fun k => (parseFieldDescriptor (clT 33 k).2.2.1).getD .int) (ob_ty (t := 33) (by decide)) (ob_nm (t := 33) (by decide)) hown hK hP hD hS 0 rfl (cl_at 33 (by decide)) 1 (by decide) (hgd (Cond.fieldLink "TableArms$Reader" 9 "TableArms$Reader" "tape" "[B") (wAt_gd (i := 317) (by decide +kernel))) (fun _ h => h) rfl hin rfl (by decide +kernel) rfl rfl (Nat.le_of_ble_eq_true rfl) (by decide +kernel : decode prog_6_method_1_code 10 = .ok (.putfield 9, 3)) (fun H locs hP hD hS => ?_)
  have hP : va_P D clL [(h0, .inr (9, [.null, .ref q0, .int 0, .int 0, .int 0, .int 0, .int 0, .int 0])), (q0, .inl (cy 1, 300, .inl (fun _ => 0)))] H := hP
  have hD : va_D A [(h0, .inr (9, [.null, .ref q0, .int 0, .int 0, .int 0, .int 0, .int 0, .int 0])), (q0, .inl (cy 1, 300, .inl (fun _ => 0)))] := hD
  refine lv_aload_n hx hb (by decide +kernel : decode prog_6_method_1_code 13 = .ok (.aload_n 0, 1)) rfl (lv_at hl 0 rfl) ?_
  refine lv_aload_n hx hb (by decide +kernel : decode prog_6_method_1_code 14 = .ok (.aload_n 1, 1)) rfl (lv_at hl 1 rfl) ?_
  refine va_putF (ty := .object "TableArms$Rules") (D := D) (cl := clL) (tys := tysC cy) (own := "TableArms$Reader") (ref := "TableArms$Reader") (ci := 9) (v := .ref ru) (C := clC 33) (T := clT 33) (N := 8) hx hb hgd (sf_lay (t := 33) (by decide)) (fun k => (parseFieldDescriptor (clT 33 k).2.2.1).getD .int) (ob_ty (t := 33) (by decide)) (ob_nm (t := 33) (by decide)) hown hK hP hD hS 0 rfl (cl_at 33 (by decide)) 0 (by decide) (hgd (Cond.fieldLink "TableArms$Reader" 15 "TableArms$Reader" "rules" "LTableArms$Rules;") (wAt_gd (i := 316) (by decide +kernel))) (fun _ h => h) rfl hin rfl (by decide +kernel) rfl rfl (Nat.le_of_ble_eq_true rfl) (by decide +kernel : decode prog_6_method_1_code 15 = .ok (.putfield 15, 3)) (fun H locs hP hD hS => ?_)
  have hP : va_P D clL [(h0, .inr (9, [.ref ru, .ref q0, .int 0, .int 0, .int 0, .int 0, .int 0, .int 0])), (q0, .inl (cy 1, 300, .inl (fun _ => 0)))] H := hP
  have hD : va_D A [(h0, .inr (9, [.ref ru, .ref q0, .int 0, .int 0, .int 0, .int 0, .int 0, .int 0])), (q0, .inl (cy 1, 300, .inl (fun _ => 0)))] := hD
  exact W.vret hx hb hr (fun t ht hW => ⟨⟨_, rfl, ⟨q0, rfl⟩, by show va_P D clL _ t.heap; rw [ht]; exact hP, by rw [hAe]; exact hD⟩, by rw [hAe]; exact hS.F ht⟩) hS.2.2 (by decide +kernel : decode prog_6_method_1_code 18 = .ok (.return_, 1))
def yC_35 : MethodName := ⟨"TableArms$Crossing", "<init>", "()V"⟩
def wC_35 : List Cond := Cond.code yC_35 prog_4_method_1_code 1 none :: gd
set_option maxRecDepth 100000 in
theorem cC_35 : Cond.code yC_35 prog_4_method_1_code 1 none ∈ gd := List.mem_filter.mpr ⟨List.mem_of_getElem? (i := 346) rfl, rfl⟩
theorem gC_35 : GoodIn gd wC_35 := by
  intro w hw
  rcases List.mem_cons.mp hw with rfl | h
  · exact ⟨cC_35, good_of_word (gd_good cC_35)⟩
  · exact ⟨h, good_of_word (gd_good h)⟩
theorem iC_35 : Cond.instanceMethod yC_35 ∈ gd := wAt_gd (i := 345) (by decide +kernel)
theorem nC_35 : Cond.initialized "TableArms$Crossing" ∈ gd := wAt_gd (i := 96) (by decide +kernel)
theorem oC_35 : Cond.methodLink "TableArms$Crossing" 3 objectInit ∈ gd := wAt_gd (i := 347) (by decide +kernel)
def pC_35 (cy : Nat → ClassId) (h0 : Nat) : va_W → Prop := fun u => ∃ q0 q1 q2 : Nat, u = [(h0, .inr (10, [.ref q0, .ref q1, .ref q2, .int 0, .int 0])), (q0, .inl (cy 0, 12, .inl (fun _ => 0))), (q1, .inl (cy 0, 12, .inl (fun _ => 0))), (q2, .inl (cy 0, 144, .inl (fun _ => 0)))]
set_option maxHeartbeats 4000000 in
set_option maxRecDepth 100000 in
theorem kc_35 (l : Launch) (D : va_G) (cy : Nat → ClassId) (h0 sz : Nat) : Met l yC_35 wC_35 { frames := 1, cells := 3, slots := 168, locals := 12 } (PcK D cy [(h0, .inr (10, [.null, .null, .null, .int 0, .int 0]))] sz [.ref h0]) (QvK D [(h0, .inr (10, [.null, .null, .null, .int 0, .int 0]))] sz (pC_35 cy h0)) 3 168 (va_A [(h0, .inr (10, [.null, .null, .null, .int 0, .int 0]))] sz) := by
  refine Met.ofW (cc := prog_4_method_1_code) (maxL := 1) (ret := none) (by decide +kernel) rfl ?_
  intro p e s m args below meth c s₁ B hml hv
  obtain ⟨rfl, hsz, hP, hKC, hD0⟩ := hv
  have hx := B.exec
  have hb := B.bytes
  have hr := B.returns
  have hlocks := B.notSynchronized
  have hgd : ∀ w ∈ gd, w.before ([.ref h0] : List Value).toArray s = true := fun w hw => atoms_spec (ws := wC_35) B.pre w (List.mem_cons_of_mem _ hw)
  have hown : s.vm.findClass "TableArms$Crossing" = some m.cls := findClass_of_methodNamed B.named
  have hin : meth.name = "<init>" := (name_of_methodNamed B.named B.method).1
  have hK := hKC.1
  subst hsz
  have hD := hD0.self (sz := s.heap.size)
  generalize hAe : va_A [(h0, .inr (10, [.null, .null, .null, .int 0, .int 0]))] s.heap.size = A at hD ⊢
  have hA : ∀ q : Nat, s.heap.size ≤ q → A q := fun q h => by rw [← hAe]; exact Or.inr h
  have hS : va_S A s.heap s.heap [] := va_S.rf
  have hl := lv_entry ([.ref h0]) (n := 1) (Nat.le_of_ble_eq_true rfl)
  rw [lg_entry_eq]
  generalize (lg_sl ([.ref h0]) ++ List.replicate (1 - (lg_sl ([.ref h0])).length) Slot.unset).toArray = ls at hl ⊢
  have hl : lv_has ls 1 [(0, .ref h0)] := hl
  refine lv_aload_n hx hb (by decide +kernel : decode prog_4_method_1_code 0 = .ok (.aload_n 0, 1)) rfl (lv_at hl 0 rfl) ?_
  refine W.objInit hx hb hown (hgd _ oC_35) (hgd _ oI) (hgd _ oK) rfl (by rw [hml]; exact hl.1) rfl (by decide +kernel : decode prog_4_method_1_code 1 = .ok (.invokespecial 3, 3)) (Nat.le_of_ble_eq_true rfl) (Nat.le_of_ble_eq_true rfl) ?_
  refine W.eq (g2 := F0 m 4 ls []) rfl ?_
  refine lv_aload_n hx hb (by decide +kernel : decode prog_4_method_1_code 4 = .ok (.aload_n 0, 1)) rfl (lv_at hl 0 rfl) ?_
  refine lv_bipush (v := 12) hx hb (by decide +kernel : decode prog_4_method_1_code 5 = .ok (.bipush 12, 2)) (by decide) ?_
  refine k_newI (N := 12) hx hb hgd hK hP hD hS hA (by decide) (by decide) (by decide) (Nat.le_of_ble_eq_true rfl) (Nat.le_of_ble_eq_true rfl) (by decide +kernel : decode prog_4_method_1_code 7 = .ok (.newarray .int, 2)) (fun q0 H hP hD hS => ?_)
  have hP : va_P D clL [(h0, .inr (10, [.null, .null, .null, .int 0, .int 0])), (q0, .inl (cy 0, 12, .inl (fun _ => 0)))] H := hP
  have hD : va_D A [(h0, .inr (10, [.null, .null, .null, .int 0, .int 0])), (q0, .inl (cy 0, 12, .inl (fun _ => 0)))] := hD
  refine va_putF (ty := .array .int) (D := D) (cl := clL) (tys := tysC cy) (own := "TableArms$Crossing") (ref := "TableArms$Crossing") (ci := 10) (v := .ref q0) (C := clC 35) (T := clT 35) (N := 5) hx hb hgd (sf_lay (t := 35) (by decide)) (fun k => (parseFieldDescriptor (clT 35 k).2.2.1).getD .int) (ob_ty (t := 35) (by decide)) (ob_nm (t := 35) (by decide)) hown hK hP hD hS 0 rfl (cl_at 35 (by decide)) 0 (by decide) (hgd (Cond.fieldLink "TableArms$Crossing" 9 "TableArms$Crossing" "left" "[I") (wAt_gd (i := 348) (by decide +kernel))) (fun _ h => h) rfl hin rfl (by decide +kernel) rfl rfl (Nat.le_of_ble_eq_true rfl) (by decide +kernel : decode prog_4_method_1_code 9 = .ok (.putfield 9, 3)) (fun H locs hP hD hS => ?_)
  have hP : va_P D clL [(h0, .inr (10, [.ref q0, .null, .null, .int 0, .int 0])), (q0, .inl (cy 0, 12, .inl (fun _ => 0)))] H := hP
  have hD : va_D A [(h0, .inr (10, [.ref q0, .null, .null, .int 0, .int 0])), (q0, .inl (cy 0, 12, .inl (fun _ => 0)))] := hD
  refine lv_aload_n hx hb (by decide +kernel : decode prog_4_method_1_code 12 = .ok (.aload_n 0, 1)) rfl (lv_at hl 0 rfl) ?_
  refine lv_bipush (v := 12) hx hb (by decide +kernel : decode prog_4_method_1_code 13 = .ok (.bipush 12, 2)) (by decide) ?_
  refine k_newI (N := 12) hx hb hgd hK hP hD hS hA (by decide) (by decide) (by decide) (Nat.le_of_ble_eq_true rfl) (Nat.le_of_ble_eq_true rfl) (by decide +kernel : decode prog_4_method_1_code 15 = .ok (.newarray .int, 2)) (fun q1 H hP hD hS => ?_)
  have hP : va_P D clL [(h0, .inr (10, [.ref q0, .null, .null, .int 0, .int 0])), (q0, .inl (cy 0, 12, .inl (fun _ => 0))), (q1, .inl (cy 0, 12, .inl (fun _ => 0)))] H := hP
  have hD : va_D A [(h0, .inr (10, [.ref q0, .null, .null, .int 0, .int 0])), (q0, .inl (cy 0, 12, .inl (fun _ => 0))), (q1, .inl (cy 0, 12, .inl (fun _ => 0)))] := hD
  refine va_putF (ty := .array .int) (D := D) (cl := clL) (tys := tysC cy) (own := "TableArms$Crossing") (ref := "TableArms$Crossing") (ci := 10) (v := .ref q1) (C := clC 35) (T := clT 35) (N := 5) hx hb hgd (sf_lay (t := 35) (by decide)) (fun k => (parseFieldDescriptor (clT 35 k).2.2.1).getD .int) (ob_ty (t := 35) (by decide)) (ob_nm (t := 35) (by decide)) hown hK hP hD hS 0 rfl (cl_at 35 (by decide)) 1 (by decide) (hgd (Cond.fieldLink "TableArms$Crossing" 15 "TableArms$Crossing" "right" "[I") (wAt_gd (i := 349) (by decide +kernel))) (fun _ h => h) rfl hin rfl (by decide +kernel) rfl rfl (Nat.le_of_ble_eq_true rfl) (by decide +kernel : decode prog_4_method_1_code 17 = .ok (.putfield 15, 3)) (fun H locs hP hD hS => ?_)
  have hP : va_P D clL [(h0, .inr (10, [.ref q0, .ref q1, .null, .int 0, .int 0])), (q0, .inl (cy 0, 12, .inl (fun _ => 0))), (q1, .inl (cy 0, 12, .inl (fun _ => 0)))] H := hP
  have hD : va_D A [(h0, .inr (10, [.ref q0, .ref q1, .null, .int 0, .int 0])), (q0, .inl (cy 0, 12, .inl (fun _ => 0))), (q1, .inl (cy 0, 12, .inl (fun _ => 0)))] := hD
  refine lv_aload_n hx hb (by decide +kernel : decode prog_4_method_1_code 20 = .ok (.aload_n 0, 1)) rfl (lv_at hl 0 rfl) ?_
  refine lv_sipush (v := 144) hx hb (by decide +kernel : decode prog_4_method_1_code 21 = .ok (.sipush 144, 3)) (by decide) ?_
  refine k_newI (N := 144) hx hb hgd hK hP hD hS hA (by decide) (by decide) (by decide) (Nat.le_of_ble_eq_true rfl) (Nat.le_of_ble_eq_true rfl) (by decide +kernel : decode prog_4_method_1_code 24 = .ok (.newarray .int, 2)) (fun q2 H hP hD hS => ?_)
  have hP : va_P D clL [(h0, .inr (10, [.ref q0, .ref q1, .null, .int 0, .int 0])), (q0, .inl (cy 0, 12, .inl (fun _ => 0))), (q1, .inl (cy 0, 12, .inl (fun _ => 0))), (q2, .inl (cy 0, 144, .inl (fun _ => 0)))] H := hP
  have hD : va_D A [(h0, .inr (10, [.ref q0, .ref q1, .null, .int 0, .int 0])), (q0, .inl (cy 0, 12, .inl (fun _ => 0))), (q1, .inl (cy 0, 12, .inl (fun _ => 0))), (q2, .inl (cy 0, 144, .inl (fun _ => 0)))] := hD
  refine va_putF (ty := .array .int) (D := D) (cl := clL) (tys := tysC cy) (own := "TableArms$Crossing") (ref := "TableArms$Crossing") (ci := 10) (v := .ref q2) (C := clC 35) (T := clT 35) (N := 5) hx hb hgd (sf_lay (t := 35) (by decide)) (fun k => (parseFieldDescriptor (clT 35 k).2.2.1).getD .int) (ob_ty (t := 35) (by decide)) (ob_nm (t := 35) (by decide)) hown hK hP hD hS 0 rfl (cl_at 35 (by decide)) 2 (by decide) (hgd (Cond.fieldLink "TableArms$Crossing" 18 "TableArms$Crossing" "ticks" "[I") (wAt_gd (i := 350) (by decide +kernel))) (fun _ h => h) rfl hin rfl (by decide +kernel) rfl rfl (Nat.le_of_ble_eq_true rfl) (by decide +kernel : decode prog_4_method_1_code 26 = .ok (.putfield 18, 3)) (fun H locs hP hD hS => ?_)
  have hP : va_P D clL [(h0, .inr (10, [.ref q0, .ref q1, .ref q2, .int 0, .int 0])), (q0, .inl (cy 0, 12, .inl (fun _ => 0))), (q1, .inl (cy 0, 12, .inl (fun _ => 0))), (q2, .inl (cy 0, 144, .inl (fun _ => 0)))] H := hP
  have hD : va_D A [(h0, .inr (10, [.ref q0, .ref q1, .ref q2, .int 0, .int 0])), (q0, .inl (cy 0, 12, .inl (fun _ => 0))), (q1, .inl (cy 0, 12, .inl (fun _ => 0))), (q2, .inl (cy 0, 144, .inl (fun _ => 0)))] := hD
  exact W.vret hx hb hr (fun t ht hW => ⟨⟨_, rfl, ⟨q0, q1, q2, rfl⟩, by show va_P D clL _ t.heap; rw [ht]; exact hP, by rw [hAe]; exact hD⟩, by rw [hAe]; exact hS.F ht⟩) hS.2.2 (by decide +kernel : decode prog_4_method_1_code 29 = .ok (.return_, 1))
def yC_39 : MethodName := ⟨"TableArms$Asks", "<init>", "(LTableArms$Stock;LTableArms$Table;)V"⟩
def wC_39 : List Cond := Cond.code yC_39 prog_3_method_1_code 3 none :: gd
set_option maxRecDepth 100000 in
theorem cC_39 : Cond.code yC_39 prog_3_method_1_code 3 none ∈ gd := List.mem_filter.mpr ⟨List.mem_of_getElem? (i := 368) rfl, rfl⟩
theorem gC_39 : GoodIn gd wC_39 := by
  intro w hw
  rcases List.mem_cons.mp hw with rfl | h
  · exact ⟨cC_39, good_of_word (gd_good cC_39)⟩
  · exact ⟨h, good_of_word (gd_good h)⟩
theorem iC_39 : Cond.instanceMethod yC_39 ∈ gd := wAt_gd (i := 367) (by decide +kernel)
theorem nC_39 : Cond.initialized "TableArms$Asks" ∈ gd := wAt_gd (i := 97) (by decide +kernel)
theorem oC_39 : Cond.methodLink "TableArms$Asks" 3 objectInit ∈ gd := wAt_gd (i := 369) (by decide +kernel)
def pC_39 (cy : Nat → ClassId) (h0 st tb : Nat) : va_W → Prop := fun u => ∃ q0 : Nat, u = [(h0, .inr (11, [.ref st, .ref tb, .ref q0, .int 0])), (q0, .inl (cy 0, 16, .inl (fun _ => 0)))]
set_option maxHeartbeats 4000000 in
set_option maxRecDepth 100000 in
theorem kc_39 (l : Launch) (D : va_G) (cy : Nat → ClassId) (h0 sz : Nat) (st : Nat) (tb : Nat) : Met l yC_39 wC_39 { frames := 1, cells := 1, slots := 16, locals := 12 } (PcK D cy [(h0, .inr (11, [.null, .null, .null, .int 0]))] sz [.ref h0, .ref st, .ref tb]) (QvK D [(h0, .inr (11, [.null, .null, .null, .int 0]))] sz (pC_39 cy h0 st tb)) 1 16 (va_A [(h0, .inr (11, [.null, .null, .null, .int 0]))] sz) := by
  refine Met.ofW (cc := prog_3_method_1_code) (maxL := 3) (ret := none) (by decide +kernel) rfl ?_
  intro p e s m args below meth c s₁ B hml hv
  obtain ⟨rfl, hsz, hP, hKC, hD0⟩ := hv
  have hx := B.exec
  have hb := B.bytes
  have hr := B.returns
  have hlocks := B.notSynchronized
  have hgd : ∀ w ∈ gd, w.before ([.ref h0, .ref st, .ref tb] : List Value).toArray s = true := fun w hw => atoms_spec (ws := wC_39) B.pre w (List.mem_cons_of_mem _ hw)
  have hown : s.vm.findClass "TableArms$Asks" = some m.cls := findClass_of_methodNamed B.named
  have hin : meth.name = "<init>" := (name_of_methodNamed B.named B.method).1
  have hK := hKC.1
  subst hsz
  have hD := hD0.self (sz := s.heap.size)
  generalize hAe : va_A [(h0, .inr (11, [.null, .null, .null, .int 0]))] s.heap.size = A at hD ⊢
  have hA : ∀ q : Nat, s.heap.size ≤ q → A q := fun q h => by rw [← hAe]; exact Or.inr h
  have hS : va_S A s.heap s.heap [] := va_S.rf
  have hl := lv_entry ([.ref h0, .ref st, .ref tb]) (n := 3) (Nat.le_of_ble_eq_true rfl)
  rw [lg_entry_eq]
  generalize (lg_sl ([.ref h0, .ref st, .ref tb]) ++ List.replicate (3 - (lg_sl ([.ref h0, .ref st, .ref tb])).length) Slot.unset).toArray = ls at hl ⊢
  have hl : lv_has ls 3 [(0, .ref h0), (1, .ref st), (2, .ref tb)] := hl
  refine lv_aload_n hx hb (by decide +kernel : decode prog_3_method_1_code 0 = .ok (.aload_n 0, 1)) rfl (lv_at hl 0 rfl) ?_
  refine W.objInit hx hb hown (hgd _ oC_39) (hgd _ oI) (hgd _ oK) rfl (by rw [hml]; exact hl.1) rfl (by decide +kernel : decode prog_3_method_1_code 1 = .ok (.invokespecial 3, 3)) (Nat.le_of_ble_eq_true rfl) (Nat.le_of_ble_eq_true rfl) ?_
  refine W.eq (g2 := F0 m 4 ls []) rfl ?_
  refine lv_aload_n hx hb (by decide +kernel : decode prog_3_method_1_code 4 = .ok (.aload_n 0, 1)) rfl (lv_at hl 0 rfl) ?_
  refine lv_bipush (v := 16) hx hb (by decide +kernel : decode prog_3_method_1_code 5 = .ok (.bipush 16, 2)) (by decide) ?_
  refine k_newI (N := 16) hx hb hgd hK hP hD hS hA (by decide) (by decide) (by decide) (Nat.le_of_ble_eq_true rfl) (Nat.le_of_ble_eq_true rfl) (by decide +kernel : decode prog_3_method_1_code 7 = .ok (.newarray .int, 2)) (fun q0 H hP hD hS => ?_)
  have hP : va_P D clL [(h0, .inr (11, [.null, .null, .null, .int 0])), (q0, .inl (cy 0, 16, .inl (fun _ => 0)))] H := hP
  have hD : va_D A [(h0, .inr (11, [.null, .null, .null, .int 0])), (q0, .inl (cy 0, 16, .inl (fun _ => 0)))] := hD
  refine va_putF (ty := .array .int) (D := D) (cl := clL) (tys := tysC cy) (own := "TableArms$Asks") (ref := "TableArms$Asks") (ci := 11) (v := .ref q0) (C := clC 39) (T := clT 39) (N := 4) hx hb hgd (sf_lay (t := 39) (by decide)) (fun k => (parseFieldDescriptor (clT 39 k).2.2.1).getD .int) (ob_ty (t := 39) (by decide)) (ob_nm (t := 39) (by decide)) hown hK hP hD hS 0 rfl (cl_at 39 (by decide)) 2 (by decide) (hgd (Cond.fieldLink "TableArms$Asks" 9 "TableArms$Asks" "bodies" "[I") (wAt_gd (i := 372) (by decide +kernel))) (fun _ h => h) rfl hin rfl (by decide +kernel) rfl rfl (Nat.le_of_ble_eq_true rfl) (by decide +kernel : decode prog_3_method_1_code 9 = .ok (.putfield 9, 3)) (fun H locs hP hD hS => ?_)
  have hP : va_P D clL [(h0, .inr (11, [.null, .null, .ref q0, .int 0])), (q0, .inl (cy 0, 16, .inl (fun _ => 0)))] H := hP
  have hD : va_D A [(h0, .inr (11, [.null, .null, .ref q0, .int 0])), (q0, .inl (cy 0, 16, .inl (fun _ => 0)))] := hD
  refine lv_aload_n hx hb (by decide +kernel : decode prog_3_method_1_code 12 = .ok (.aload_n 0, 1)) rfl (lv_at hl 0 rfl) ?_
  refine lv_aload_n hx hb (by decide +kernel : decode prog_3_method_1_code 13 = .ok (.aload_n 1, 1)) rfl (lv_at hl 1 rfl) ?_
  refine va_putF (ty := .object "TableArms$Stock") (D := D) (cl := clL) (tys := tysC cy) (own := "TableArms$Asks") (ref := "TableArms$Asks") (ci := 11) (v := .ref st) (C := clC 39) (T := clT 39) (N := 4) hx hb hgd (sf_lay (t := 39) (by decide)) (fun k => (parseFieldDescriptor (clT 39 k).2.2.1).getD .int) (ob_ty (t := 39) (by decide)) (ob_nm (t := 39) (by decide)) hown hK hP hD hS 0 rfl (cl_at 39 (by decide)) 0 (by decide) (hgd (Cond.fieldLink "TableArms$Asks" 15 "TableArms$Asks" "stock" "LTableArms$Stock;") (wAt_gd (i := 370) (by decide +kernel))) (fun _ h => h) rfl hin rfl (by decide +kernel) rfl rfl (Nat.le_of_ble_eq_true rfl) (by decide +kernel : decode prog_3_method_1_code 14 = .ok (.putfield 15, 3)) (fun H locs hP hD hS => ?_)
  have hP : va_P D clL [(h0, .inr (11, [.ref st, .null, .ref q0, .int 0])), (q0, .inl (cy 0, 16, .inl (fun _ => 0)))] H := hP
  have hD : va_D A [(h0, .inr (11, [.ref st, .null, .ref q0, .int 0])), (q0, .inl (cy 0, 16, .inl (fun _ => 0)))] := hD
  refine lv_aload_n hx hb (by decide +kernel : decode prog_3_method_1_code 17 = .ok (.aload_n 0, 1)) rfl (lv_at hl 0 rfl) ?_
  refine lv_aload_n hx hb (by decide +kernel : decode prog_3_method_1_code 18 = .ok (.aload_n 2, 1)) rfl (lv_at hl 2 rfl) ?_
  refine va_putF (ty := .object "TableArms$Table") (D := D) (cl := clL) (tys := tysC cy) (own := "TableArms$Asks") (ref := "TableArms$Asks") (ci := 11) (v := .ref tb) (C := clC 39) (T := clT 39) (N := 4) hx hb hgd (sf_lay (t := 39) (by decide)) (fun k => (parseFieldDescriptor (clT 39 k).2.2.1).getD .int) (ob_ty (t := 39) (by decide)) (ob_nm (t := 39) (by decide)) hown hK hP hD hS 0 rfl (cl_at 39 (by decide)) 1 (by decide) (hgd (Cond.fieldLink "TableArms$Asks" 19 "TableArms$Asks" "table" "LTableArms$Table;") (wAt_gd (i := 371) (by decide +kernel))) (fun _ h => h) rfl hin rfl (by decide +kernel) rfl rfl (Nat.le_of_ble_eq_true rfl) (by decide +kernel : decode prog_3_method_1_code 19 = .ok (.putfield 19, 3)) (fun H locs hP hD hS => ?_)
  have hP : va_P D clL [(h0, .inr (11, [.ref st, .ref tb, .ref q0, .int 0])), (q0, .inl (cy 0, 16, .inl (fun _ => 0)))] H := hP
  have hD : va_D A [(h0, .inr (11, [.ref st, .ref tb, .ref q0, .int 0])), (q0, .inl (cy 0, 16, .inl (fun _ => 0)))] := hD
  exact W.vret hx hb hr (fun t ht hW => ⟨⟨_, rfl, ⟨q0, rfl⟩, by show va_P D clL _ t.heap; rw [ht]; exact hP, by rw [hAe]; exact hD⟩, by rw [hAe]; exact hS.F ht⟩) hS.2.2 (by decide +kernel : decode prog_3_method_1_code 22 = .ok (.return_, 1))
