/-! methods by depth, and their contracts -/
theorem Call_ex : ∃ C : Nat → sC, (∀ d y as μ Q, C (d + 1) y as μ Q ↔ (Nat.ble (ctS as) (mxOf y) = true ∧ Run (codeOf y) (C d) Q 0 (l_arg as) [] μ)) ∧ ∀ y as μ Q, ¬ C 0 y as μ Q :=
  ⟨fun d => Nat.rec (motive := fun _ => sC) (fun _ _ _ _ => False) (fun _ Cd y as μ Q => Nat.ble (ctS as) (mxOf y) = true ∧ Run (codeOf y) Cd Q 0 (l_arg as) [] μ) d, fun _ _ _ _ _ => Iff.rfl, fun _ _ _ _ h => h⟩
/-- not to be unfolded: a call stays a call -/
noncomputable def Call : Nat → sC := Classical.choose Call_ex
theorem Call_iff {d y : Nat} {as : List sv} {μ : sM} {Q : sQ} : Call (d + 1) y as μ Q ↔ (Nat.ble (ctS as) (mxOf y) = true ∧ Run (codeOf y) (Call d) Q 0 (l_arg as) [] μ) := (Classical.choose_spec Call_ex).1 d y as μ Q
theorem Call_no {y : Nat} {as : List sv} {μ : sM} {Q : sQ} : ¬ Call 0 y as μ Q := (Classical.choose_spec Call_ex).2 y as μ Q
theorem Call.mon : ∀ d, monC (Call d) (Call d)
  | 0 => fun _ _ _ _ _ _ h => absurd h Call_no
  | d + 1 => fun _ _ _ _ _ hP h => Call_iff.mpr ⟨(Call_iff.mp h).1, Run.mono (Call.mon d) hP (Call_iff.mp h).2⟩
theorem lg_len {S : sG} : ∀ (as : List sv), (lg_sl (as.map (mv S))).length = ctS as
  | [] => rfl
  | v :: as => by
    have ih := lg_len (S := S) as
    unfold lg_sl at ih ⊢
    rw [List.map_cons, List.flatMap_cons, List.length_append, ih]
    rcases v with x | x | ⟨t, i⟩ <;> rfl
theorem lv_args_mem {S : sG} : ∀ (as : List sv) (k i : Nat) (v : sv), l_at (l_arg as) i = some v → (k + i, mv S v) ∈ lv_args k (as.map (mv S))
  | [], k, i, v, h => by cases h
  | .inl x :: as, k, 0, v, h => by cases h; exact List.mem_cons_self
  | .inl x :: as, k, i + 1, v, h => by
    have ih := lv_args_mem (S := S) as (k + 1) i v h
    rw [show k + (i + 1) = k + 1 + i from by omega]
    exact List.mem_cons_of_mem _ ih
  | .inr (.inr q) :: as, k, 0, v, h => by cases h; exact List.mem_cons_self
  | .inr (.inr q) :: as, k, i + 1, v, h => by
    have ih := lv_args_mem (S := S) as (k + 1) i v h
    rw [show k + (i + 1) = k + 1 + i from by omega]
    exact List.mem_cons_of_mem _ ih
  | .inr (.inl x) :: as, k, 0, v, h => by cases h; exact List.mem_cons_self
  | .inr (.inl x) :: as, k, 1, v, h => by cases h
  | .inr (.inl x) :: as, k, i + 2, v, h => by
    have ih := lv_args_mem (S := S) as (k + 2) i v h
    rw [show k + (i + 2) = k + 2 + i from by omega]
    exact List.mem_cons_of_mem _ ih
theorem okL_arg {lw : Prop} : ∀ {as : List sv}, okS lw as → okL lw (l_arg as)
  | [], _ => fun i v h => by cases h
  | .inl x :: as, hs => fun i v h => by
    cases i with
    | zero => cases h; trivial
    | succ i => exact okL_arg hs.2 i v h
  | .inr (.inr q) :: as, hs => fun i v h => by
    cases i with
    | zero => cases h; exact hs.1
    | succ i => exact okL_arg hs.2 i v h
  | .inr (.inl x) :: as, hs => fun i v h => by
    match i, h with
    | 0, h => cases h; trivial
    | 1, h => cases h
    | i + 2, h => exact okL_arg hs.2 i v h
theorem rk3 {r : Option FieldType} (h : rkT r = 3) : ∃ rt, r = some rt ∧ ((∃ n, rt = .object n) ∨ ∃ t, rt = .array t) := by
  cases r with
  | none => cases h
  | some t => cases t <;> first | exact ⟨_, rfl, Or.inl ⟨_, rfl⟩⟩ | exact ⟨_, rfl, Or.inr ⟨_, rfl⟩⟩ | cases h
section CALL
variable {p : Program} {l : Launch} {e : Env} {R : Room} {s : State} {m : MethodId} {args : Array Value} {below : List Frame} {meth : Method} {c : Code} {S : sG} {y d : Nat} {Q : sQ}
theorem ret_ok (hx : p.tables.exec = Jvm.exec) (hb : c.code = btOf y) (hr : meth.sig.returnType = rtOf y) (hlocks : meth.locks = false) : RetOk S y Q p l e R s m args below meth c 0 0 (MQ below (QcS S Q (rkT (rtOf y))) args s 0 0 (Aw S)) := by
  intro H locs A pc μ hw hS
  refine ⟨fun x h1 hd hq => ?_, fun x h1 hx1 hd hq => ?_, fun x h1 hd hq => ?_, fun t i h1 hv hd hq => ?_, fun h1 hd hq => ?_⟩
  · rw [h1]
    exact W.iret (v := x) hx hb (hr.trans h1) (fun t ht hW => ⟨⟨x, μ, rfl, ⟨0, (0, 0), hq⟩, by show wd S μ t.heap; rw [ht]; exact hw⟩, hS.F ht⟩) hS.2.2 hd
  · rw [h1]
    exact W.zret (v := x) (ty := .boolean) hx hb (hr.trans h1) (by rcases hx1 with rfl | rfl <;> rfl) (fun t ht hW => ⟨⟨x, μ, rfl, ⟨0, (0, 0), hq⟩, by show wd S μ t.heap; rw [ht]; exact hw⟩, hS.F ht⟩) hS.2.2 hd
  · rw [h1]
    exact W.lret (v := x) hx hb (hr.trans h1) (fun t ht hW => ⟨⟨x, μ, rfl, ⟨0, (0, 0), hq⟩, by show wd S μ t.heap; rw [ht]; exact hw⟩, hS.F ht⟩) hS.2.2 hd
  · obtain ⟨rt, h2, h3⟩ := rk3 h1
    rw [h1]
    exact W.aret (v := .ref (gA S t i)) hx hb (hr.trans h2) h3 (Or.inr ⟨_, rfl⟩) (fun t' ht hW => ⟨⟨(μ, (t, i)), gA S t i, rfl, ⟨⟨0, 0, hq⟩, hv⟩, rfl, by show wd S μ t'.heap; rw [ht]; exact hw⟩, hS.F ht⟩) hS.2.2 hd
  · rw [h1]
    exact W.vret hx hb (hr.trans h1) (fun t ht hW => ⟨⟨μ, rfl, ⟨0, 0, (0, 0), hq⟩, by show wd S μ t.heap; rw [ht]; exact hw⟩, hS.F ht⟩) hS.2.2 hd
end CALL
set_option maxRecDepth 20000 in
theorem call_ok {S : sG} (hj : injS S) (l : Launch) : ∀ (d z : Nat) (as : List sv) (μ : sM) (Q : sQ), z < 253 → okS False as → Call d z as μ Q → MetS S l d z as μ Q
  | 0, _, _, _, _, _, _, h => absurd h Call_no
  | d + 1, z, as, μ, Q, hz, ho, h => by
    have h := Call_iff.mp h
    obtain ⟨hi, -, -, hpl, -, -, hcl, -⟩ := okM_spec hz
    refine Met.ofW (cc := btOf z) (maxL := mxOf z) (ret := rtOf z) hpl rfl ?_
    intro p e s m args below meth c s₁ B hml hv
    obtain ⟨rfl, hw, hKU, hSU⟩ := hv
    have hts := atoms_spec (ws := wsO z) B.pre
    have hgd : ∀ w ∈ gd, w.before ((as.map (mv S)).toArray) s = true := fun w hw => hts w (List.mem_cons_of_mem _ hw)
    have hown : s.vm.findClass (clC (owOf z)) = some m.cls := by rw [hcl]; exact findClass_of_methodNamed B.named
    have X : Cx S z d False p (headSpec (wsO z) (rmO (d + 1))).room s m ((as.map (mv S)).toArray) c 0 0 := ⟨B.exec, B.bytes, hml, hown, hgd, hKU, hSU, hj, ⟨Nat.le_refl _, Nat.le_refl _⟩, ⟨Nat.zero_le _, Nat.zero_le _⟩, fun h => absurd h id, by omega⟩
    have hl0 := lv_entry (as.map (mv S)) (n := mxOf z) (by rw [lg_len]; exact Nat.le_of_ble_eq_true h.1)
    rw [lg_entry_eq]
    generalize (lg_sl (as.map (mv S)) ++ List.replicate (mxOf z - (lg_sl (as.map (mv S))).length) Slot.unset).toArray = A at hl0 ⊢
    have hl : hasL S A (mxOf z) (l_arg as) := ⟨hl0.1, hl0.2.1, fun i v hv => by
      have := hl0.2.2 _ (lv_args_mem (S := S) as 0 i v hv)
      rw [Nat.zero_add] at this
      exact this⟩
    exact h.2 _ (step_ok X (call_ok hj l d) (ret_ok B.exec B.bytes B.returns B.notSynchronized) (str_ok X)) s.heap [] A hw va_S.rf hl (okL_arg ho) trivial
