set_option maxHeartbeats 4000000 in
set_option maxRecDepth 100000 in
/-- THE LAW, from its entry to its loop -/
theorem law_start {p : Program} {e : Env} {s : State} {m : MethodId} {below : List Frame} {meth : Method} {c : Code} (l : Launch) {b L : Nat} {xs : Nat → Int32} (hL : L ≤ 3072) (C0 : lw_At p s m meth c b L xs)
    {DD : Nat} (hDD : DD ≤ 1000) (hrun : Run kL_law (Call DD) lawQ 16 [some (sR 59 0), some (sR 0 0), some (sR 41 0)] [] (mu0 (scr xs L))) : W p l e room_1 s m #[Value.ref b] below meth c s.heap [] 0 0 (lw_Z below #[Value.ref b] s) (entryFrame m ([Value.ref b] : List Value).toArray 4) := by
  obtain ⟨hx, hb, hr, hml, hown, hts, hX, hbl, hlocks, hgv⟩ := id C0
  have hA : ∀ q : Nat, s.heap.size ≤ q → (fun q : Nat => s.heap.size ≤ q) q := fun _ h => h
  have hgd : ∀ w ∈ gd, w.before #[Value.ref b] s = true := fun w h => hts w (gd_tbl h)
  obtain ⟨D, cy, hK⟩ := st_KC hts
  obtain ⟨adK, adV, hS1, hS2, hS3, hS4⟩ := st_S hts hgv
  have hKC : KC D cy s := ⟨hK, va_Nw.of rfl (hts _ nk_a), va_Nw.of rfl (hts _ nk_b), va_AO.of (hts _ ao_t)⟩
  have hS : va_S (fun q : Nat => s.heap.size ≤ q) s.heap s.heap [] := va_S.rf
  have hP : va_P D clL [] s.heap := fun k q h => by simp at h
  have hD : va_D (fun q : Nat => s.heap.size ≤ q) [] := ⟨fun i j p q h => by simp at h, fun k q h => by simp at h⟩
  have hl := lv_entry ([.ref b]) (n := 4) (Nat.le_of_ble_eq_true rfl)
  rw [lg_entry_eq]
  generalize (lg_sl ([.ref b]) ++ List.replicate (4 - (lg_sl ([.ref b])).length) Slot.unset).toArray = ls at hl ⊢
  have hl : lv_has ls 4 [(0, .ref b)] := hl
  refine va_new (D := D) (cl := clL) (tys := tysC cy) (own := R_law) (ci := 0) (fs := [.null, .null, .null, .null, .null, .null, .null, .null, .null, .null, .null, .int 0]) (C := clC 0) (T := clT 0) (N := 12) hx hb hgd (sf_lay (t := 0) (by decide)) (fun k => (parseFieldDescriptor (clT 0 k).2.2.1).getD .int) (ob_ty (t := 0) (by decide)) hown (hgd (Cond.classLink "TableArmsLaw" 7 "TableArms") (wAt_gd (i := 106) (by decide +kernel))) (hgd (Cond.instantiable "TableArms" 12) (wAt_gd (i := 107) (by decide +kernel))) (hgd _ nC_0) hK hP hD hS hA (cl_at 0 (by decide)) (by decide +kernel) (Nat.le_of_ble_eq_true rfl) (Nat.le_of_ble_eq_true rfl) (by decide +kernel : decode code 0 = .ok (.new 7, 3)) (fun h0 H hP hD hS => ?_)
  refine lv_dup hx hb (by decide +kernel : decode code 3 = .ok (.dup, 1)) rfl ?_
  refine k_ctor (D := D) (cy := cy) (ws := []) (As := []) (rest := [.ref h0]) ⟨hx, hb, hml, hown, hgd⟩ hKC (kc_0 l D cy h0 H.size) ⟨callB_of (own := R_law) (index := 9) (y := yC_0) 0 hgd gC_0 rfl rfl rfl (hgd _ nC_0) (hgd _ (wAt_gd (i := 108) (by decide +kernel))) (by decide +kernel) ⟨Nat.le_of_ble_eq_true rfl, Nat.le_of_ble_eq_true rfl⟩, rfl, hgd _ iC_0⟩ hP hD hS hA rfl hl.1 (Nat.le_of_ble_eq_true rfl) (by decide +kernel : decode code 4 = .ok (.invokespecial 9, 3)) ⟨Nat.le_of_ble_eq_true rfl, Nat.le_of_ble_eq_true rfl⟩ (fun u H locs pu hP hD hS => ?_)
  refine lv_astore_n (lv' := [(1, .ref h0), (0, .ref b)]) hx hb (by decide +kernel : decode code 7 = .ok (.astore_n 1, 1)) rfl hl (by decide) rfl (fun ls hl => ?_)
  have hP : va_P D clL u H := hP
  have hD : va_D (fun q : Nat => s.heap.size ≤ q) u := hD
  refine va_new (D := D) (cl := clL) (tys := tysC cy) (own := R_law) (ci := 12) (fs := [.int 0, .int 0, .null, .int 0, .null, .null, .int 0, .null, .int 0, .null, .null, .null, .null, .null, .null, .null, .null, .int 0, .null, .int 0, .null, .int 0, .int 0, .int 0, .int 0, .int 0, .int 0, .int 0, .int 0, .int 0, .null, .null, .null, .int 0]) (C := clC 41) (T := clT 41) (N := 34) hx hb hgd (sf_lay (t := 41) (by decide)) (fun k => (parseFieldDescriptor (clT 41 k).2.2.1).getD .int) (ob_ty (t := 41) (by decide)) hown (hgd (Cond.classLink "TableArmsLaw" 10 "TableArmsModel") (wAt_gd (i := 1210) (by decide +kernel))) (hgd (Cond.instantiable "TableArmsModel" 34) (wAt_gd (i := 1211) (by decide +kernel))) (hgd _ nC_41) hK hP hD hS hA (cl_at 41 (by decide)) (by decide +kernel) (Nat.le_of_ble_eq_true rfl) (Nat.le_of_ble_eq_true rfl) (by decide +kernel : decode code 8 = .ok (.new 10, 3)) (fun hm H hP hD hS => ?_)
  refine lv_dup hx hb (by decide +kernel : decode code 11 = .ok (.dup, 1)) rfl ?_
  refine k_ctor (D := D) (cy := cy) (ws := u) (As := []) (rest := [.ref hm]) ⟨hx, hb, hml, hown, hgd⟩ hKC (kc_41 l D cy hm H.size) ⟨callB_of (own := R_law) (index := 12) (y := yC_41) 0 hgd gC_41 rfl rfl rfl (hgd _ nC_41) (hgd _ (wAt_gd (i := 1212) (by decide +kernel))) (by decide +kernel) ⟨Nat.le_of_ble_eq_true rfl, Nat.le_of_ble_eq_true rfl⟩, rfl, hgd _ iC_41⟩ hP hD hS hA rfl hl.1 (Nat.le_of_ble_eq_true rfl) (by decide +kernel : decode code 12 = .ok (.invokespecial 12, 3)) ⟨Nat.le_of_ble_eq_true rfl, Nat.le_of_ble_eq_true rfl⟩ (fun v H locs pv hP hD hS => ?_)
  refine lv_astore_n (lv' := [(2, .ref hm), (1, .ref h0), (0, .ref b)]) hx hb (by decide +kernel : decode code 15 = .ok (.astore_n 2, 1)) rfl hl (by decide) rfl (fun ls hl => ?_)
  refine va_forget (fun q hq => hS.2.2 q hq) ?_
  obtain ⟨LL, i1, i2, i3, gP, gJ, gA⟩ := made (b := b) (adK := adK) (adV := adV) (X := scr xs L) pu pv hP hD
  have hnew : ∀ q, Aw (D, gAt LL adK, cy, scr xs L, adV) q → s.heap.size ≤ q := gA
  have hnar : ∀ q, Aw (D, gAt LL adK, cy, scr xs L, adV) q → (fun q : Nat => s.heap.size ≤ q) q := gA
  have eK : (fun i => gAt LL adK (60 + i) 0) = adK := funext (gAt_60 LL adK)
  have hKU : KU (D, gAt LL adK, cy, scr xs L, adV) s := by
    refine ⟨hK, fun e he => ?_, fun e he => ?_⟩
    · obtain ⟨i, -, hi⟩ := ns_a e he
      exact va_Nw.of (on_Wn e) (hts _ (tAt_in hi))
    · obtain ⟨i, -, hi⟩ := ss_a e he
      obtain ⟨j1, j2, j3, j4⟩ := ss_b e he
      refine vk_R.of (hts _ (tAt_in hi)) ?_
      have e1 : gAt LL adK e.2.2 0 = adK (e.2.2 - 60) := by
        have := gAt_60 LL adK (e.2.2 - 60)
        rwa [show 60 + (e.2.2 - 60) = e.2.2 by omega] at this
      show (Term.string (clC e.1) e.2.1).eval _ s none [] s = some (.ref (gAt LL adK e.2.2 0))
      rw [e1, j3, j4]
      exact hS2 _ j2
  have hSU : SU (D, gAt LL adK, cy, scr xs L, adV) s s.heap := by
    refine ⟨?_, hS3.narrow hnar, ?_⟩
    · show vk_S 10 strL strs (fun i => gAt LL adK (60 + i) 0) adV _ s s.heap
      rw [eK]
      exact hS1.narrow hnar
    · obtain ⟨v, k1, k2⟩ := hS4
      exact ⟨v, k1, k2.narrow hnar⟩
  have K := law_W (l := l) (e := e) (below := below) (ce := 109) (sl := 10093) (D := DD) (S := (D, gAt LL adK, cy, scr xs L, adV)) ⟨Nat.le_of_ble_eq_true rfl, Nat.le_of_ble_eq_true rfl⟩ hDD C0 gJ hKU hSU hnew i3 rfl rfl hL hrun
  have K2 := K H [] ls ⟨gP, fun i k => rfl⟩ ⟨hS.1, fun q hq _ => hS.2.1 q hq (by show ¬ s.heap.size ≤ q; omega), fun q h => by simp at h⟩ ⟨hl.1, hl.2.1, ?_⟩ ?_ trivial
  · exact W.widen (Nat.le_of_ble_eq_true rfl) (Nat.le_of_ble_eq_true rfl) K2
  · intro i v hv
    match i, hv with
    | 0, hv => cases hv; have := hl.2.2 (0, .ref b) (by simp); rw [← i3] at this; exact this
    | 1, hv => cases hv; have := hl.2.2 (1, .ref h0) (by simp); rw [← i1] at this; exact this
    | 2, hv => cases hv; have := hl.2.2 (2, .ref hm) (by simp); rw [← i2] at this; exact this
    | i + 3, hv => cases i <;> cases hv
  · intro i v hv
    match i, hv with
    | 0, hv => cases hv; exact Or.inr (Or.inr ⟨trivial, rfl, rfl⟩)
    | 1, hv => cases hv; exact Or.inl ⟨by decide, by decide⟩
    | 2, hv => cases hv; exact Or.inl ⟨by decide, by decide⟩
    | i + 3, hv => cases i <;> cases hv
