/-! length() and charAt() of the constants: the JDK's own code -/
def yS_coder : MethodName := ⟨"java/lang/String", "coder", "()B"⟩
def wS_coder : List Cond := Cond.code yS_coder prog_17_method_152_code 1 (some .byte) :: gd
set_option maxRecDepth 100000 in
theorem cS_coder : Cond.code yS_coder prog_17_method_152_code 1 (some .byte) ∈ gd := List.mem_filter.mpr ⟨List.mem_of_getElem? (i := 940) rfl, rfl⟩
theorem gS_coder : GoodIn gd wS_coder := by
  intro w hw
  rcases List.mem_cons.mp hw with rfl | h
  · exact ⟨cS_coder, good_of_word (gd_good cS_coder)⟩
  · exact ⟨h, good_of_word (gd_good h)⟩
def yS_length : MethodName := ⟨"java/lang/String", "length", "()I"⟩
def wS_length : List Cond := Cond.code yS_length prog_17_method_54_code 1 (some .int) :: gd
set_option maxRecDepth 100000 in
theorem cS_length : Cond.code yS_length prog_17_method_54_code 1 (some .int) ∈ gd := List.mem_filter.mpr ⟨List.mem_of_getElem? (i := 936) rfl, rfl⟩
theorem gS_length : GoodIn gd wS_length := by
  intro w hw
  rcases List.mem_cons.mp hw with rfl | h
  · exact ⟨cS_length, good_of_word (gd_good cS_length)⟩
  · exact ⟨h, good_of_word (gd_good h)⟩
def yS_isLatin1 : MethodName := ⟨"java/lang/String", "isLatin1", "()Z"⟩
def wS_isLatin1 : List Cond := Cond.code yS_isLatin1 prog_17_method_154_code 1 (some .boolean) :: gd
set_option maxRecDepth 100000 in
theorem cS_isLatin1 : Cond.code yS_isLatin1 prog_17_method_154_code 1 (some .boolean) ∈ gd := List.mem_filter.mpr ⟨List.mem_of_getElem? (i := 950) rfl, rfl⟩
theorem gS_isLatin1 : GoodIn gd wS_isLatin1 := by
  intro w hw
  rcases List.mem_cons.mp hw with rfl | h
  · exact ⟨cS_isLatin1, good_of_word (gd_good cS_isLatin1)⟩
  · exact ⟨h, good_of_word (gd_good h)⟩
def yS_charAt : MethodName := ⟨"java/lang/String", "charAt", "(I)C"⟩
def wS_charAt : List Cond := Cond.code yS_charAt prog_17_method_56_code 2 (some .char) :: gd
set_option maxRecDepth 100000 in
theorem cS_charAt : Cond.code yS_charAt prog_17_method_56_code 2 (some .char) ∈ gd := List.mem_filter.mpr ⟨List.mem_of_getElem? (i := 946) rfl, rfl⟩
theorem gS_charAt : GoodIn gd wS_charAt := by
  intro w hw
  rcases List.mem_cons.mp hw with rfl | h
  · exact ⟨cS_charAt, good_of_word (gd_good cS_charAt)⟩
  · exact ⟨h, good_of_word (gd_good h)⟩
def yS_sCheck : MethodName := ⟨"java/lang/String", "checkIndex", "(II)V"⟩
def wS_sCheck : List Cond := Cond.code yS_sCheck prog_17_method_155_code 2 none :: gd
set_option maxRecDepth 100000 in
theorem cS_sCheck : Cond.code yS_sCheck prog_17_method_155_code 2 none ∈ gd := List.mem_filter.mpr ⟨List.mem_of_getElem? (i := 956) rfl, rfl⟩
theorem gS_sCheck : GoodIn gd wS_sCheck := by
  intro w hw
  rcases List.mem_cons.mp hw with rfl | h
  · exact ⟨cS_sCheck, good_of_word (gd_good cS_sCheck)⟩
  · exact ⟨h, good_of_word (gd_good h)⟩
def yS_lCharAt : MethodName := ⟨"java/lang/StringLatin1", "charAt", "([BI)C"⟩
def wS_lCharAt : List Cond := Cond.code yS_lCharAt prog_18_method_2_code 2 (some .char) :: gd
set_option maxRecDepth 100000 in
theorem cS_lCharAt : Cond.code yS_lCharAt prog_18_method_2_code 2 (some .char) ∈ gd := List.mem_filter.mpr ⟨List.mem_of_getElem? (i := 953) rfl, rfl⟩
theorem gS_lCharAt : GoodIn gd wS_lCharAt := by
  intro w hw
  rcases List.mem_cons.mp hw with rfl | h
  · exact ⟨cS_lCharAt, good_of_word (gd_good cS_lCharAt)⟩
  · exact ⟨h, good_of_word (gd_good h)⟩
def yS_pCheck : MethodName := ⟨"jdk/internal/util/Preconditions", "checkIndex", "(IILjava/util/function/BiFunction;)I"⟩
def wS_pCheck : List Cond := Cond.code yS_pCheck prog_22_method_11_code 3 (some .int) :: gd
set_option maxRecDepth 100000 in
theorem cS_pCheck : Cond.code yS_pCheck prog_22_method_11_code 3 (some .int) ∈ gd := List.mem_filter.mpr ⟨List.mem_of_getElem? (i := 961) rfl, rfl⟩
theorem gS_pCheck : GoodIn gd wS_pCheck := by
  intro w hw
  rcases List.mem_cons.mp hw with rfl | h
  · exact ⟨cS_pCheck, good_of_word (gd_good cS_pCheck)⟩
  · exact ⟨h, good_of_word (gd_good h)⟩
theorem fS_cs : Cond.fieldLink "java/lang/String" 38 "java/lang/String" "COMPACT_STRINGS" "Z" ∈ gd := wAt_gd (i := 941) (by decide +kernel)
theorem fS_co : Cond.fieldLink "java/lang/String" 15 "java/lang/String" "coder" "B" ∈ gd := wAt_gd (i := 1708) (by decide +kernel)
theorem fS_va : Cond.fieldLink "java/lang/String" 9 "java/lang/String" "value" "[B" ∈ gd := wAt_gd (i := 1707) (by decide +kernel)
theorem fS_si : Cond.fieldLink "java/lang/String" 1053 "jdk/internal/util/Preconditions" "SIOOBE_FORMATTER" "Ljava/util/function/BiFunction;" ∈ gd := wAt_gd (i := 957) (by decide +kernel)
theorem lS_335 : Cond.methodLink "java/lang/String" 335 yS_coder ∈ gd := wAt_gd (i := 937) (by decide +kernel)
theorem lS_492 : Cond.methodLink "java/lang/String" 492 yS_isLatin1 ∈ gd := wAt_gd (i := 947) (by decide +kernel)
theorem lS_495 : Cond.methodLink "java/lang/String" 495 yS_lCharAt ∈ gd := wAt_gd (i := 951) (by decide +kernel)
theorem lS_9 : Cond.methodLink "java/lang/StringLatin1" 9 yS_sCheck ∈ gd := wAt_gd (i := 954) (by decide +kernel)
theorem lS_1059 : Cond.methodLink "java/lang/String" 1059 yS_pCheck ∈ gd := wAt_gd (i := 959) (by decide +kernel)
theorem iS_coder : Cond.instanceMethod yS_coder ∈ gd := wAt_gd (i := 938) (by decide +kernel)
theorem sS_coder : Cond.selects "java/lang/String" yS_coder yS_coder ∈ gd := wAt_gd (i := 939) (by decide +kernel)
theorem iS_length : Cond.instanceMethod yS_length ∈ gd := wAt_gd (i := 934) (by decide +kernel)
theorem sS_length : Cond.selects "java/lang/String" yS_length yS_length ∈ gd := wAt_gd (i := 935) (by decide +kernel)
theorem iS_isLatin1 : Cond.instanceMethod yS_isLatin1 ∈ gd := wAt_gd (i := 948) (by decide +kernel)
theorem sS_isLatin1 : Cond.selects "java/lang/String" yS_isLatin1 yS_isLatin1 ∈ gd := wAt_gd (i := 949) (by decide +kernel)
theorem iS_charAt : Cond.instanceMethod yS_charAt ∈ gd := wAt_gd (i := 944) (by decide +kernel)
theorem sS_charAt : Cond.selects "java/lang/String" yS_charAt yS_charAt ∈ gd := wAt_gd (i := 945) (by decide +kernel)
theorem tS_sCheck : Cond.static yS_sCheck ∈ gd := wAt_gd (i := 955) (by decide +kernel)
theorem tS_lCharAt : Cond.static yS_lCharAt ∈ gd := wAt_gd (i := 952) (by decide +kernel)
theorem tS_pCheck : Cond.static yS_pCheck ∈ gd := wAt_gd (i := 960) (by decide +kernel)
theorem nS_str : Cond.initialized "java/lang/String" ∈ gd := wAt_gd (i := 102) (by decide +kernel)
theorem nS_l1 : Cond.initialized "java/lang/StringLatin1" ∈ gd := wAt_gd (i := 103) (by decide +kernel)
theorem nS_pr : Cond.initialized "jdk/internal/util/Preconditions" ∈ gd := wAt_gd (i := 104) (by decide +kernel)
def PcJ (S : sG) (H0 : Heap) (av : List Value) : Array Value → State → Prop := va_Pc av (fun U => U.heap = H0 ∧ SU S U U.heap)
def QiJ (H0 : Heap) (v : Int32) : Array Value → State → Outcome → State → Prop := va_Qi (fun r (_ : Unit) => r = v) (fun _ t => t.heap = H0) (fun _ => False)
def QvJ (H0 : Heap) : Array Value → State → Outcome → State → Prop := va_Qv (fun (_ : Unit) => True) (fun _ t => t.heap = H0) (fun _ => False)
theorem PcJ_blind {S : sG} {H0 : Heap} {av : List Value} : FrameBlind (PcJ S H0 av) := by
  intro a U g mk q
  obtain ⟨q0, q1, q2⟩ := q
  exact ⟨q0, q1, SU.moved (u := U) (Vm.Alike.refl U.vm) q2⟩
theorem vs_up {A : Nat → Prop} {H0 H : Heap} {locs : List Loc} (h : va_S (fun _ => False) H0 H locs) : va_S A H0 H locs := ⟨h.1, fun q h1 _ => h.2.1 q h1 id, fun l hl => absurd (h.2.2 l hl) id⟩
def rmJ (n : Nat) : Room := { frames := n, cells := 0, slots := 0, locals := 32 * n }
theorem str_n (j : Nat) (hj : j < 10) : (nth [] strs j).length = strL.getD j 0 := by
  have key : ∀ j, j < 10 → (nth [] strs j).length = strL.getD j 0 := by decide +kernel
  exact key j hj
theorem str_len (j : Nat) (hj : j < 10) : Int32.ofNat (strL.getD j 0) = Int32.ofNat (nth [] strs j).length := by rw [str_n j hj]
theorem str_shr (j : Nat) (hj : j < 10) : Int32.ofNat (nth [] strs j).length >>> ((0 : Int32) &&& 31) = Int32.ofNat (nth [] strs j).length := by
  have key : ∀ j, j < 10 → Int32.ofNat (nth [] strs j).length >>> ((0 : Int32) &&& 31) = Int32.ofNat (nth [] strs j).length := by decide +kernel
  exact key j hj
theorem str_lt (j : Nat) (hj : j < 10) {x : Int32} (h : vp_in x (nth [] strs j).length) : x < Int32.ofNat (nth [] strs j).length := by
  have hb : (nth [] strs j).length < 10 := by
    have key : ∀ j, j < 10 → (nth [] strs j).length < 10 := by decide +kernel
    exact key j hj
  obtain ⟨k, hk, rfl⟩ := vp_in_of h (by omega)
  exact nI_lt hk (by omega)
theorem nth_getD {α : Type} (d : α) : ∀ (l : List α) (k : Nat), nth d l k = l.getD k d
  | [], k => by simp [nth]
  | a :: l, 0 => rfl
  | a :: l, k + 1 => by rw [nth, nth_getD d l k]; simp
theorem str_b (j : Nat) (hj : j < 10) {k : Nat} : Value.int ((strs.getD j []).getD k 0) = .int (nth 0 (nth [] strs j) k) := by rw [nth_getD, nth_getD]
theorem str_c (j : Nat) (hj : j < 10) (x : Int32) (h : vp_in x (nth [] strs j).length) : ((nth 0 (nth [] strs j) x.toNatClampNeg &&& 255).toUInt32 % 65536).toInt32 = nth 0 (nth [] strs j) x.toNatClampNeg ∧ narrow .char (.int (nth 0 (nth [] strs j) x.toNatClampNeg)) = .int (nth 0 (nth [] strs j) x.toNatClampNeg) := by
  have hlt : x.toNatClampNeg < (nth [] strs j).length := Nat.not_le.mp fun q => h (Or.inr q)
  have key : ∀ j, j < 10 → ∀ k, k < (nth [] strs j).length → ((nth 0 (nth [] strs j) k &&& 255).toUInt32 % 65536).toInt32 = nth 0 (nth [] strs j) k ∧ narrow .char (.int (nth 0 (nth [] strs j) k)) = .int (nth 0 (nth [] strs j) k) := by decide +kernel
  exact key j hj _ hlt
section SJ
variable {S : sG} {H0 : Heap} {j : Nat}
theorem kS_coder (l : Launch) (hj : j < 10)  : Met l yS_coder wS_coder (rmJ 0) (PcJ S H0 [.ref (gA S (60 + j) 0)]) (QiJ H0 0) 0 0 (fun _ => False) := by
  refine Met.ofW (cc := prog_17_method_152_code) (maxL := 1) (ret := (some .byte)) (by decide +kernel) rfl ?_
  intro p e s m args below meth c s₁ B hml hv
  obtain ⟨rfl, hH, hSU⟩ := hv
  subst hH
  have hx := B.exec
  have hb := B.bytes
  have hr := B.returns
  have hlocks := B.notSynchronized
  have hgd : ∀ w ∈ gd, w.before ([.ref (gA S (60 + j) 0)] : List Value).toArray s = true := fun w hw => atoms_spec (ws := wS_coder) B.pre w (List.mem_cons_of_mem _ hw)
  have hown : s.vm.findClass "java/lang/String" = some m.cls := findClass_of_methodNamed B.named
  have hS : va_S (fun _ => False) s.heap s.heap [] := va_S.rf
  have hSU0 := hSU
  obtain ⟨hE0, hZ, fv, hfv, hZ2⟩ := hSU
  have hE := hE0.1
  have hl := lv_entry ([.ref (gA S (60 + j) 0)]) (n := 1) (Nat.le_of_ble_eq_true rfl)
  rw [lg_entry_eq]
  generalize (lg_sl ([.ref (gA S (60 + j) 0)]) ++ List.replicate (1 - (lg_sl ([.ref (gA S (60 + j) 0)])).length) Slot.unset).toArray = ls at hl ⊢
  refine va_gets hx hb hZ (vs_up hS) hown (hgd _ fS_cs) (fun _ h => h) (by decide +kernel : decode prog_17_method_152_code 0 = .ok (.getstatic 38, 3)) ?_
  refine lv_if_eq (tgt := 13) hx hb (by decide +kernel : decode prog_17_method_152_code 3 = .ok (.ifCond .eq 10, 3)) (by decide) (fun q => absurd q (by decide)) (fun _ => ?_)
  refine lv_aload_n hx hb (by decide +kernel : decode prog_17_method_152_code 6 = .ok (.aload_n 0, 1)) rfl (lv_at hl 0 rfl) ?_
  refine vk_getf hx hb (hE j hj).2.1 (vs_up hS) hown (hgd _ fS_co) (fun _ h => h) (by decide +kernel : decode prog_17_method_152_code 7 = .ok (.getfield 15, 3)) ?_
  refine lv_goto (tgt := 14) hx hb (by decide +kernel : decode prog_17_method_152_code 10 = .ok (.goto 4, 3)) (by decide) ?_
  exact W.zret (v := 0) (ty := .byte) hx hb hr rfl (fun t ht hW => ⟨⟨_, (), rfl, rfl, ht⟩, va_S.F hS ht⟩) hS.2.2 (by decide +kernel : decode prog_17_method_152_code 14 = .ok (.ireturn, 1))
theorem kS_isLatin1 (l : Launch) (hj : j < 10)  : Met l yS_isLatin1 wS_isLatin1 (rmJ 0) (PcJ S H0 [.ref (gA S (60 + j) 0)]) (QiJ H0 1) 0 0 (fun _ => False) := by
  refine Met.ofW (cc := prog_17_method_154_code) (maxL := 1) (ret := (some .boolean)) (by decide +kernel) rfl ?_
  intro p e s m args below meth c s₁ B hml hv
  obtain ⟨rfl, hH, hSU⟩ := hv
  subst hH
  have hx := B.exec
  have hb := B.bytes
  have hr := B.returns
  have hlocks := B.notSynchronized
  have hgd : ∀ w ∈ gd, w.before ([.ref (gA S (60 + j) 0)] : List Value).toArray s = true := fun w hw => atoms_spec (ws := wS_isLatin1) B.pre w (List.mem_cons_of_mem _ hw)
  have hown : s.vm.findClass "java/lang/String" = some m.cls := findClass_of_methodNamed B.named
  have hS : va_S (fun _ => False) s.heap s.heap [] := va_S.rf
  have hSU0 := hSU
  obtain ⟨hE0, hZ, fv, hfv, hZ2⟩ := hSU
  have hE := hE0.1
  have hl := lv_entry ([.ref (gA S (60 + j) 0)]) (n := 1) (Nat.le_of_ble_eq_true rfl)
  rw [lg_entry_eq]
  generalize (lg_sl ([.ref (gA S (60 + j) 0)]) ++ List.replicate (1 - (lg_sl ([.ref (gA S (60 + j) 0)])).length) Slot.unset).toArray = ls at hl ⊢
  refine va_gets hx hb hZ (vs_up hS) hown (hgd _ fS_cs) (fun _ h => h) (by decide +kernel : decode prog_17_method_154_code 0 = .ok (.getstatic 38, 3)) ?_
  refine lv_if_eq (tgt := 17) hx hb (by decide +kernel : decode prog_17_method_154_code 3 = .ok (.ifCond .eq 14, 3)) (by decide) (fun q => absurd q (by decide)) (fun _ => ?_)
  refine lv_aload_n hx hb (by decide +kernel : decode prog_17_method_154_code 6 = .ok (.aload_n 0, 1)) rfl (lv_at hl 0 rfl) ?_
  refine vk_getf hx hb (hE j hj).2.1 (vs_up hS) hown (hgd _ fS_co) (fun _ h => h) (by decide +kernel : decode prog_17_method_154_code 7 = .ok (.getfield 15, 3)) ?_
  refine lv_if_ne (tgt := 17) hx hb (by decide +kernel : decode prog_17_method_154_code 10 = .ok (.ifCond .ne 7, 3)) (by decide) (fun q => absurd rfl q) (fun _ => ?_)
  refine lv_iconst (v := 1) hx hb (n := 1) (by decide +kernel : decode prog_17_method_154_code 13 = .ok (.iconst 1, 1)) (by decide) ?_
  refine lv_goto (tgt := 18) hx hb (by decide +kernel : decode prog_17_method_154_code 14 = .ok (.goto 4, 3)) (by decide) ?_
  exact W.zret (v := 1) (ty := .boolean) hx hb hr rfl (fun t ht hW => ⟨⟨_, (), rfl, rfl, ht⟩, va_S.F hS ht⟩) hS.2.2 (by decide +kernel : decode prog_17_method_154_code 18 = .ok (.ireturn, 1))
theorem kS_length (l : Launch) (hj : j < 10)  : Met l yS_length wS_length (rmJ 1) (PcJ S H0 [.ref (gA S (60 + j) 0)]) (QiJ H0 (Int32.ofNat (nth [] strs j).length)) 0 0 (fun _ => False) := by
  refine Met.ofW (cc := prog_17_method_54_code) (maxL := 1) (ret := (some .int)) (by decide +kernel) rfl ?_
  intro p e s m args below meth c s₁ B hml hv
  obtain ⟨rfl, hH, hSU⟩ := hv
  subst hH
  have hx := B.exec
  have hb := B.bytes
  have hr := B.returns
  have hlocks := B.notSynchronized
  have hgd : ∀ w ∈ gd, w.before ([.ref (gA S (60 + j) 0)] : List Value).toArray s = true := fun w hw => atoms_spec (ws := wS_length) B.pre w (List.mem_cons_of_mem _ hw)
  have hown : s.vm.findClass "java/lang/String" = some m.cls := findClass_of_methodNamed B.named
  have hS : va_S (fun _ => False) s.heap s.heap [] := va_S.rf
  have hSU0 := hSU
  obtain ⟨hE0, hZ, fv, hfv, hZ2⟩ := hSU
  have hE := hE0.1
  have hl := lv_entry ([.ref (gA S (60 + j) 0)]) (n := 1) (Nat.le_of_ble_eq_true rfl)
  rw [lg_entry_eq]
  generalize (lg_sl ([.ref (gA S (60 + j) 0)]) ++ List.replicate (1 - (lg_sl ([.ref (gA S (60 + j) 0)])).length) Slot.unset).toArray = ls at hl ⊢
  refine lv_aload_n hx hb (by decide +kernel : decode prog_17_method_54_code 0 = .ok (.aload_n 0, 1)) rfl (lv_at hl 0 rfl) ?_
  refine vk_getf hx hb (hE j hj).2.2.1 (vs_up hS) hown (hgd _ fS_va) (fun _ h => h) (by decide +kernel : decode prog_17_method_54_code 1 = .ok (.getfield 9, 3)) ?_
  refine va_tlen (v := Int32.ofNat (nth [] strs j).length) hx hb (hE j hj).2.2.2 (vs_up hS) (str_len j hj) (by decide +kernel : decode prog_17_method_54_code 4 = .ok (.arraylength, 1)) ?_
  refine lv_aload_n hx hb (by decide +kernel : decode prog_17_method_54_code 5 = .ok (.aload_n 0, 1)) rfl (lv_at hl 0 rfl) ?_
  have hrecv := vk_recv (H := s.heap) (locs := []) hE0 hj (vs_up hS)
  have cw : CallB (headSpec wS_length (rmJ 1)).room s ([.ref (gA S (60 + j) 0)] : List Value).toArray "java/lang/String" 335 yS_coder prog_17_method_152_code 1 (some .byte) wS_coder (rmJ 0) 0 0 0 := callB_of 0 hgd gS_coder rfl rfl rfl (hgd _ nS_str) (hgd _ lS_335) (by decide +kernel) ⟨Nat.le_of_ble_eq_true rfl, Nat.le_of_ble_eq_true rfl⟩
  refine va_calli (A1 := fun _ => False) (a := ([.ref (gA S (60 + j) 0)] : List Value).toArray) (va_runV (As := []) (rest := [.int (Int32.ofNat (nth [] strs j).length)]) (C := "java/lang/String") (n := 0) ⟨hx, hb, hml, hown, hgd⟩ (kS_coder (S := S) (H0 := s.heap) (j := j) l hj) ⟨cw, hgd _ iS_coder, hgd _ sS_coder⟩ ⟨PcJ_blind, hrecv, fun U hU hW => ⟨rfl, hU, by rw [hU]; exact SU.moved hW.alike hSU0⟩⟩ rfl rfl hl.1 rfl (lv_room (Nat.le_of_ble_eq_true rfl)) (by decide +kernel : decode prog_17_method_54_code 6 = .ok (.invokevirtual 335, 3)) ⟨Nat.zero_le _, Nat.zero_le _⟩) hS (fun _ _ h => h) (fun _ h => h) (fun r_2 u t H1 locs1 ht hvm hw hB hz1 hk1 hS => ?_)
  obtain rfl : r_2 = 0 := hw
  obtain rfl : H1 = s.heap := ht.symm.trans hB
  refine lv_ishr hx hb (by decide +kernel : decode prog_17_method_54_code 9 = .ok (.ishr, 1)) ?_
  refine W.eq (g2 := F0 m 10 ls [.int (Int32.ofNat (nth [] strs j).length)]) (by rw [str_shr j hj]) ?_
  exact W.iret (v := Int32.ofNat (nth [] strs j).length) hx hb hr (fun t ht hW => ⟨⟨_, (), rfl, rfl, ht⟩, va_S.F hS ht⟩) hS.2.2 (by decide +kernel : decode prog_17_method_54_code 10 = .ok (.ireturn, 1))
theorem kS_pCheck (l : Launch) {x z : Int32} {fv0 : Value} (hf0 : fv0.category = 1) (h1 : ¬ x < 0) (h2 : x < z) : Met l yS_pCheck wS_pCheck (rmJ 0) (PcJ S H0 [.int x, .int z, fv0]) (QiJ H0 x) 0 0 (fun _ => False) := by
  refine Met.ofW (cc := prog_22_method_11_code) (maxL := 3) (ret := (some .int)) (by decide +kernel) rfl ?_
  intro p e s m args below meth c s₁ B hml hv
  obtain ⟨rfl, hH, hSU⟩ := hv
  subst hH
  have hx := B.exec
  have hb := B.bytes
  have hr := B.returns
  have hlocks := B.notSynchronized
  have hgd : ∀ w ∈ gd, w.before ([.int x, .int z, fv0] : List Value).toArray s = true := fun w hw => atoms_spec (ws := wS_pCheck) B.pre w (List.mem_cons_of_mem _ hw)
  have hown : s.vm.findClass "jdk/internal/util/Preconditions" = some m.cls := findClass_of_methodNamed B.named
  have hS : va_S (fun _ => False) s.heap s.heap [] := va_S.rf
  have hSU0 := hSU
  obtain ⟨hE0, hZ, fv, hfv, hZ2⟩ := hSU
  have hE := hE0.1
  have hl := lv_entry ([.int x, .int z, fv0]) (n := 3) (by unfold lg_sl; simp only [List.flatMap_cons, List.flatMap_nil, hf0]; exact Nat.le_of_ble_eq_true rfl)
  rw [lg_entry_eq]
  generalize (lg_sl ([.int x, .int z, fv0]) ++ List.replicate (3 - (lg_sl ([.int x, .int z, fv0])).length) Slot.unset).toArray = ls at hl ⊢
  refine lv_iload_n hx hb (by decide +kernel : decode prog_22_method_11_code 0 = .ok (.iload_n 0, 1)) rfl (lv_at hl 0 rfl) ?_
  refine lv_if_lt (tgt := 9) hx hb (by decide +kernel : decode prog_22_method_11_code 1 = .ok (.ifCond .lt 8, 3)) (by decide) (fun q => absurd q h1) (fun _ => ?_)
  refine lv_iload_n hx hb (by decide +kernel : decode prog_22_method_11_code 4 = .ok (.iload_n 0, 1)) rfl (lv_at hl 0 rfl) ?_
  refine lv_iload_n hx hb (by decide +kernel : decode prog_22_method_11_code 5 = .ok (.iload_n 1, 1)) rfl (lv_at hl 1 rfl) ?_
  refine lv_icmp_lt (tgt := 16) hx hb (by decide +kernel : decode prog_22_method_11_code 6 = .ok (.if_icmp .lt 10, 3)) (by decide) (fun _ => ?_) (fun q => absurd h2 q)
  refine lv_iload_n hx hb (by decide +kernel : decode prog_22_method_11_code 16 = .ok (.iload_n 0, 1)) rfl (lv_at hl 0 rfl) ?_
  exact W.iret (v := x) hx hb hr (fun t ht hW => ⟨⟨_, (), rfl, rfl, ht⟩, va_S.F hS ht⟩) hS.2.2 (by decide +kernel : decode prog_22_method_11_code 17 = .ok (.ireturn, 1))
theorem kS_sCheck (l : Launch) {x z : Int32} (h1 : ¬ x < 0) (h2 : x < z) : Met l yS_sCheck wS_sCheck (rmJ 1) (PcJ S H0 [.int x, .int z]) (QvJ H0) 0 0 (fun _ => False) := by
  refine Met.ofW (cc := prog_17_method_155_code) (maxL := 2) (ret := none) (by decide +kernel) rfl ?_
  intro p e s m args below meth c s₁ B hml hv
  obtain ⟨rfl, hH, hSU⟩ := hv
  subst hH
  have hx := B.exec
  have hb := B.bytes
  have hr := B.returns
  have hlocks := B.notSynchronized
  have hgd : ∀ w ∈ gd, w.before ([.int x, .int z] : List Value).toArray s = true := fun w hw => atoms_spec (ws := wS_sCheck) B.pre w (List.mem_cons_of_mem _ hw)
  have hown : s.vm.findClass "java/lang/String" = some m.cls := findClass_of_methodNamed B.named
  have hS : va_S (fun _ => False) s.heap s.heap [] := va_S.rf
  have hSU0 := hSU
  obtain ⟨hE0, hZ, fv, hfv, hZ2⟩ := hSU
  have hE := hE0.1
  have hl := lv_entry ([.int x, .int z]) (n := 2) (Nat.le_of_ble_eq_true rfl)
  rw [lg_entry_eq]
  generalize (lg_sl ([.int x, .int z]) ++ List.replicate (2 - (lg_sl ([.int x, .int z])).length) Slot.unset).toArray = ls at hl ⊢
  refine lv_iload_n hx hb (by decide +kernel : decode prog_17_method_155_code 0 = .ok (.iload_n 0, 1)) rfl (lv_at hl 0 rfl) ?_
  refine lv_iload_n hx hb (by decide +kernel : decode prog_17_method_155_code 1 = .ok (.iload_n 1, 1)) rfl (lv_at hl 1 rfl) ?_
  refine va_gets hx hb hZ2 (vs_up hS) hown (hgd _ fS_si) (fun _ h => h) (by decide +kernel : decode prog_17_method_155_code 2 = .ok (.getstatic 1053, 3)) ?_
  have hf0 : fv.category = 1 := by rcases hfv with rfl | ⟨q, rfl⟩ <;> rfl
  have cw : CallB (headSpec wS_sCheck (rmJ 1)).room s ([.int x, .int z] : List Value).toArray "java/lang/String" 1059 yS_pCheck prog_22_method_11_code 3 (some .int) wS_pCheck (rmJ 0) 0 0 3 := callB_of 3 hgd gS_pCheck rfl rfl rfl (hgd _ nS_pr) (hgd _ lS_1059) (by decide +kernel) ⟨Nat.le_of_ble_eq_true rfl, Nat.le_of_ble_eq_true rfl⟩
  refine va_calli (A1 := fun _ => False) (a := ([.int x, .int z, fv] : List Value).toArray) (va_runS (As := [.int x, .int z, fv]) (rest := []) (n := 3) ⟨hx, hb, hml, hown, hgd⟩ (kS_pCheck (S := S) (H0 := s.heap) l hf0 h1 h2) ⟨cw, hgd _ tS_pCheck⟩ ⟨PcJ_blind, fun U hU hW => ⟨rfl, hU, by rw [hU]; exact SU.moved hW.alike hSU0⟩⟩ rfl rfl hl.1 rfl (lv_room (Nat.le_of_ble_eq_true rfl)) (by decide +kernel : decode prog_17_method_155_code 5 = .ok (.invokestatic 1059, 3)) ⟨Nat.zero_le _, Nat.zero_le _⟩) hS (fun _ _ h => h) (fun _ h => h) (fun r_2 u t H1 locs1 ht hvm hw hB hz1 hk1 hS => ?_)
  obtain rfl : H1 = s.heap := ht.symm.trans hB
  refine lv_pop hx hb (by decide +kernel : decode prog_17_method_155_code 8 = .ok (.pop, 1)) rfl ?_
  exact W.vret hx hb hr (fun t ht hW => ⟨⟨(), rfl, trivial, ht⟩, va_S.F hS ht⟩) hS.2.2 (by decide +kernel : decode prog_17_method_155_code 9 = .ok (.return_, 1))
theorem kS_lCharAt (l : Launch) (hj : j < 10) {x : Int32} (h1 : vp_in x (nth [] strs j).length) : Met l yS_lCharAt wS_lCharAt (rmJ 2) (PcJ S H0 [.ref (gV S j), .int x]) (QiJ H0 (nth 0 (nth [] strs j) x.toNatClampNeg)) 0 0 (fun _ => False) := by
  refine Met.ofW (cc := prog_18_method_2_code) (maxL := 2) (ret := (some .char)) (by decide +kernel) rfl ?_
  intro p e s m args below meth c s₁ B hml hv
  obtain ⟨rfl, hH, hSU⟩ := hv
  subst hH
  have hx := B.exec
  have hb := B.bytes
  have hr := B.returns
  have hlocks := B.notSynchronized
  have hgd : ∀ w ∈ gd, w.before ([.ref (gV S j), .int x] : List Value).toArray s = true := fun w hw => atoms_spec (ws := wS_lCharAt) B.pre w (List.mem_cons_of_mem _ hw)
  have hown : s.vm.findClass "java/lang/StringLatin1" = some m.cls := findClass_of_methodNamed B.named
  have hS : va_S (fun _ => False) s.heap s.heap [] := va_S.rf
  have hSU0 := hSU
  obtain ⟨hE0, hZ, fv, hfv, hZ2⟩ := hSU
  have hE := hE0.1
  have hl := lv_entry ([.ref (gV S j), .int x]) (n := 2) (Nat.le_of_ble_eq_true rfl)
  rw [lg_entry_eq]
  generalize (lg_sl ([.ref (gV S j), .int x]) ++ List.replicate (2 - (lg_sl ([.ref (gV S j), .int x])).length) Slot.unset).toArray = ls at hl ⊢
  refine lv_iload_n hx hb (by decide +kernel : decode prog_18_method_2_code 0 = .ok (.iload_n 1, 1)) rfl (lv_at hl 1 rfl) ?_
  refine lv_aload_n hx hb (by decide +kernel : decode prog_18_method_2_code 1 = .ok (.aload_n 0, 1)) rfl (lv_at hl 0 rfl) ?_
  refine va_tlen (v := Int32.ofNat (nth [] strs j).length) hx hb (hE j hj).2.2.2 (vs_up hS) (str_len j hj) (by decide +kernel : decode prog_18_method_2_code 2 = .ok (.arraylength, 1)) ?_
  have cw : CallB (headSpec wS_lCharAt (rmJ 2)).room s ([.ref (gV S j), .int x] : List Value).toArray "java/lang/StringLatin1" 9 yS_sCheck prog_17_method_155_code 2 none wS_sCheck (rmJ 1) 0 0 2 := callB_of 2 hgd gS_sCheck rfl rfl rfl (hgd _ nS_str) (hgd _ lS_9) (by decide +kernel) ⟨Nat.le_of_ble_eq_true rfl, Nat.le_of_ble_eq_true rfl⟩
  refine va_callv (A1 := fun _ => False) (a := ([.int x, .int (Int32.ofNat (nth [] strs j).length)] : List Value).toArray) (va_runS (As := [.int x, .int (Int32.ofNat (nth [] strs j).length)]) (rest := []) (n := 2) ⟨hx, hb, hml, hown, hgd⟩ (kS_sCheck (S := S) (H0 := s.heap) l (fun q => h1 (Or.inl q)) (str_lt j hj h1)) ⟨cw, hgd _ tS_sCheck⟩ ⟨PcJ_blind, fun U hU hW => ⟨rfl, hU, by rw [hU]; exact SU.moved hW.alike hSU0⟩⟩ rfl rfl hl.1 rfl (lv_room (Nat.le_of_ble_eq_true rfl)) (by decide +kernel : decode prog_18_method_2_code 3 = .ok (.invokestatic 9, 3)) ⟨Nat.zero_le _, Nat.zero_le _⟩) hS (fun _ _ h => h) (fun _ h => h) (fun u t H1 locs1 ht hvm hw hB hz1 hk1 hS => ?_)
  obtain rfl : H1 = s.heap := ht.symm.trans hB
  refine lv_aload_n hx hb (by decide +kernel : decode prog_18_method_2_code 6 = .ok (.aload_n 0, 1)) rfl (lv_at hl 0 rfl) ?_
  refine lv_iload_n hx hb (by decide +kernel : decode prog_18_method_2_code 7 = .ok (.iload_n 1, 1)) rfl (lv_at hl 1 rfl) ?_
  refine va_tb (v := .int (nth 0 (nth [] strs j) x.toNatClampNeg)) hx hb (hE j hj).2.2.2 (vs_up hS) (by rw [← str_n j hj]; exact h1) (by rw [str_b j hj]) (by decide +kernel : decode prog_18_method_2_code 8 = .ok (.baload, 1)) ?_
  refine lv_sipush (v := 255) (n := 255) hx hb (by decide +kernel : decode prog_18_method_2_code 9 = .ok (.sipush 255, 3)) (by decide) ?_
  refine lv_iand hx hb (by decide +kernel : decode prog_18_method_2_code 12 = .ok (.iand, 1)) ?_
  refine lv_i2c (v := nth 0 (nth [] strs j) x.toNatClampNeg) hx hb (by decide +kernel : decode prog_18_method_2_code 13 = .ok (.i2c, 1)) (str_c j hj _ h1).1 ?_
  exact W.zret (v := nth 0 (nth [] strs j) x.toNatClampNeg) (ty := .char) hx hb hr (str_c j hj _ h1).2 (fun t ht hW => ⟨⟨_, (), rfl, rfl, ht⟩, va_S.F hS ht⟩) hS.2.2 (by decide +kernel : decode prog_18_method_2_code 14 = .ok (.ireturn, 1))
theorem kS_charAt (l : Launch) (hj : j < 10) {x : Int32} (h1 : vp_in x (nth [] strs j).length) : Met l yS_charAt wS_charAt (rmJ 3) (PcJ S H0 [.ref (gA S (60 + j) 0), .int x]) (QiJ H0 (nth 0 (nth [] strs j) x.toNatClampNeg)) 0 0 (fun _ => False) := by
  refine Met.ofW (cc := prog_17_method_56_code) (maxL := 2) (ret := (some .char)) (by decide +kernel) rfl ?_
  intro p e s m args below meth c s₁ B hml hv
  obtain ⟨rfl, hH, hSU⟩ := hv
  subst hH
  have hx := B.exec
  have hb := B.bytes
  have hr := B.returns
  have hlocks := B.notSynchronized
  have hgd : ∀ w ∈ gd, w.before ([.ref (gA S (60 + j) 0), .int x] : List Value).toArray s = true := fun w hw => atoms_spec (ws := wS_charAt) B.pre w (List.mem_cons_of_mem _ hw)
  have hown : s.vm.findClass "java/lang/String" = some m.cls := findClass_of_methodNamed B.named
  have hS : va_S (fun _ => False) s.heap s.heap [] := va_S.rf
  have hSU0 := hSU
  obtain ⟨hE0, hZ, fv, hfv, hZ2⟩ := hSU
  have hE := hE0.1
  have hl := lv_entry ([.ref (gA S (60 + j) 0), .int x]) (n := 2) (Nat.le_of_ble_eq_true rfl)
  rw [lg_entry_eq]
  generalize (lg_sl ([.ref (gA S (60 + j) 0), .int x]) ++ List.replicate (2 - (lg_sl ([.ref (gA S (60 + j) 0), .int x])).length) Slot.unset).toArray = ls at hl ⊢
  refine lv_aload_n hx hb (by decide +kernel : decode prog_17_method_56_code 0 = .ok (.aload_n 0, 1)) rfl (lv_at hl 0 rfl) ?_
  have hrecv := vk_recv (H := s.heap) (locs := []) hE0 hj (vs_up hS)
  have cw : CallB (headSpec wS_charAt (rmJ 3)).room s ([.ref (gA S (60 + j) 0), .int x] : List Value).toArray "java/lang/String" 492 yS_isLatin1 prog_17_method_154_code 1 (some .boolean) wS_isLatin1 (rmJ 0) 0 0 0 := callB_of 0 hgd gS_isLatin1 rfl rfl rfl (hgd _ nS_str) (hgd _ lS_492) (by decide +kernel) ⟨Nat.le_of_ble_eq_true rfl, Nat.le_of_ble_eq_true rfl⟩
  refine va_calli (A1 := fun _ => False) (a := ([.ref (gA S (60 + j) 0)] : List Value).toArray) (va_runV (As := []) (rest := []) (C := "java/lang/String") (n := 0) ⟨hx, hb, hml, hown, hgd⟩ (kS_isLatin1 (S := S) (H0 := s.heap) (j := j) l hj) ⟨cw, hgd _ iS_isLatin1, hgd _ sS_isLatin1⟩ ⟨PcJ_blind, hrecv, fun U hU hW => ⟨rfl, hU, by rw [hU]; exact SU.moved hW.alike hSU0⟩⟩ rfl rfl hl.1 rfl (lv_room (Nat.le_of_ble_eq_true rfl)) (by decide +kernel : decode prog_17_method_56_code 1 = .ok (.invokevirtual 492, 3)) ⟨Nat.zero_le _, Nat.zero_le _⟩) hS (fun _ _ h => h) (fun _ h => h) (fun r_2 u t H1 locs1 ht hvm hw hB hz1 hk1 hS => ?_)
  obtain rfl : r_2 = 1 := hw
  obtain rfl : H1 = s.heap := ht.symm.trans hB
  refine lv_if_eq (tgt := 16) hx hb (by decide +kernel : decode prog_17_method_56_code 4 = .ok (.ifCond .eq 12, 3)) (by decide) (fun q => absurd q (by decide)) (fun _ => ?_)
  refine lv_aload_n hx hb (by decide +kernel : decode prog_17_method_56_code 7 = .ok (.aload_n 0, 1)) rfl (lv_at hl 0 rfl) ?_
  refine vk_getf hx hb (hE j hj).2.2.1 (vs_up hS) hown (hgd _ fS_va) (fun _ h => h) (by decide +kernel : decode prog_17_method_56_code 8 = .ok (.getfield 9, 3)) ?_
  refine lv_iload_n hx hb (by decide +kernel : decode prog_17_method_56_code 11 = .ok (.iload_n 1, 1)) rfl (lv_at hl 1 rfl) ?_
  have cw2 : CallB (headSpec wS_charAt (rmJ 3)).room s ([.ref (gA S (60 + j) 0), .int x] : List Value).toArray "java/lang/String" 495 yS_lCharAt prog_18_method_2_code 2 (some .char) wS_lCharAt (rmJ 2) 0 0 2 := callB_of 2 hgd gS_lCharAt rfl rfl rfl (hgd _ nS_l1) (hgd _ lS_495) (by decide +kernel) ⟨Nat.le_of_ble_eq_true rfl, Nat.le_of_ble_eq_true rfl⟩
  refine va_calli (A1 := fun _ => False) (a := ([.ref (gV S j), .int x] : List Value).toArray) (va_runS (As := [.ref (gV S j), .int x]) (rest := []) (n := 2) ⟨hx, hb, hml, hown, hgd⟩ (kS_lCharAt (S := S) (H0 := s.heap) l hj h1) ⟨cw2, hgd _ tS_lCharAt⟩ ⟨PcJ_blind, fun U hU hW => ⟨rfl, hU, by rw [hU]; exact SU.moved hW.alike hSU0⟩⟩ rfl rfl hl.1 rfl (lv_room (Nat.le_of_ble_eq_true rfl)) (by decide +kernel : decode prog_17_method_56_code 12 = .ok (.invokestatic 495, 3)) ⟨Nat.zero_le _, Nat.zero_le _⟩) hS (fun _ _ h => h) (fun _ h => h) (fun r_3 u t H1 locs1 ht hvm hw hB hz1 hk1 hS => ?_)
  obtain rfl : r_3 = nth 0 (nth [] strs j) x.toNatClampNeg := hw
  obtain rfl : H1 = s.heap := ht.symm.trans hB
  exact W.zret (v := nth 0 (nth [] strs j) x.toNatClampNeg) (ty := .char) hx hb hr (str_c j hj _ h1).2 (fun t ht hW => ⟨⟨_, (), rfl, rfl, ht⟩, va_S.F hS ht⟩) hS.2.2 (by decide +kernel : decode prog_17_method_56_code 15 = .ok (.ireturn, 1))
end SJ
section STR
variable {p : Program} {l : Launch} {e : Env} {R : Room} {s : State} {m : MethodId} {args : Array Value} {below : List Frame} {meth : Method} {c : Code} {ZZ : State → Prop} {ce sl : Nat} {S : sG} {y d : Nat} {lw : Prop}
theorem str_ok (X : Cx S y d lw p R s m args c ce sl) : StrOk S y p l e R s m args below meth c ce sl ZZ := by
  obtain ⟨hx, hb, hml, hown, hgd, hKU, hSU, hj, hR, hcs, hlw, hy⟩ := X
  intro H locs A pc idx j rest hS hA hcat h10
  have hrecv := vk_recv (H := H) (locs := locs) hSU.1 h10 hS
  have hSH := SU.kept hSU hS.2.1
  refine ⟨fun hk hd kk => ?_, fun k hin hk hd kk => ?_⟩
  · have cw : CallB R s args (clC (owOf y)) idx yS_length prog_17_method_54_code 1 (some .int) wS_length (rmJ 1) 0 0 0 := callB_of 0 hgd gS_length rfl rfl rfl (hgd _ nS_str) (hgd _ (sf_A hk)) (by decide +kernel) ⟨by show 2 ≤ _; omega, by show 8 + (1 + 11) + 32 ≤ _; omega⟩
    refine va_calli (A0 := Aw S) (A1 := fun _ => False) (a := ([.ref (gA S (60 + j) 0)] : List Value).toArray) (va_runV (As := []) (rest := rest) (C := "java/lang/String") (n := 0) ⟨hx, hb, hml, hown, hgd⟩ (kS_length (S := S) (H0 := H) (j := j) l h10) ⟨cw, hgd _ iS_length, hgd _ sS_length⟩ ⟨PcJ_blind, hrecv, fun U hU hW => ⟨rfl, hU, by rw [hU]; exact SU.moved hW.alike hSH⟩⟩ rfl rfl hA rfl (lv_room hcat) hd ⟨by omega, by omega⟩) hS (fun _ _ h => absurd h id) (fun _ h => absurd h id) (fun r_2 u t H1 locs1 ht hvm hw hB hz1 hk1 hS1 => ?_)
    obtain rfl : r_2 = _ := hw
    obtain rfl : H1 = H := ht.symm.trans hB
    exact kk locs1 hS1
  · have cw : CallB R s args (clC (owOf y)) idx yS_charAt prog_17_method_56_code 2 (some .char) wS_charAt (rmJ 3) 0 0 1 := callB_of 1 hgd gS_charAt rfl rfl rfl (hgd _ nS_str) (hgd _ (sf_A hk)) (by decide +kernel) ⟨by show 4 ≤ _; omega, by show 8 + (2 + 11) + 96 ≤ _; omega⟩
    refine va_calli (A0 := Aw S) (A1 := fun _ => False) (a := ([.ref (gA S (60 + j) 0), .int k] : List Value).toArray) (va_runV (As := [.int k]) (rest := rest) (C := "java/lang/String") (n := 1) ⟨hx, hb, hml, hown, hgd⟩ (kS_charAt (S := S) (H0 := H) (j := j) l h10 hin) ⟨cw, hgd _ iS_charAt, hgd _ sS_charAt⟩ ⟨PcJ_blind, hrecv, fun U hU hW => ⟨rfl, hU, by rw [hU]; exact SU.moved hW.alike hSH⟩⟩ rfl rfl hA rfl (lv_room hcat) hd ⟨by omega, by omega⟩) hS (fun _ _ h => absurd h id) (fun _ h => absurd h id) (fun r_2 u t H1 locs1 ht hvm hw hB hz1 hk1 hS1 => ?_)
    obtain rfl : r_2 = _ := hw
    obtain rfl : H1 = H := ht.symm.trans hB
    exact kk locs1 hS1
end STR
