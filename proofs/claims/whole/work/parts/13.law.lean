/-! THE CLAIM OUT OF ONE WALK OF THE LAW'S BODY. Your part is whole_start (and what it stands on); all else here is the same for every law, but numbers. -/
def R_law : String := "TableArmsLaw"
def lw_P (b : Addr) (xs : List Int32) (args : Array Value) (s : State) : Prop := args = #[.ref b] ∧ s.IntsAt b xs ∧ xs.length ≤ 3072 ∧ (Jvm.Cond.and given_1 narrow_1).before args s = true
def lw_Q (_ : Array Value) (s : State) (o : Outcome) (t : State) : Prop := o = .returned (some (.int 1)) ∧ Framed s o t [] 600000 7302249
def lw_Z (below : List Frame) (a : Array Value) (s : State) : State → Prop := fun t => ∃ o, t.status = .running ∧ Ended t below o ∧ lw_Q a s o t
/-- the law's own end, with 1 on the stack, nothing written that was there before, its room as the claim has it -/
theorem lw_ret {p : Program} {l : Launch} {e : Env} {s : State} {m : MethodId} {below : List Frame} {meth : Method} {c : Code} {b : Nat} (hx : p.tables.exec = Jvm.exec) (hb : c.code = code) (hr : meth.sig.returnType = ret) (hlocks : meth.locks = false) {pc : Nat} {H : Heap} {ls : Array Slot} (hdg : decode code pc = .ok (.ireturn, 1)) : W p l e room_1 s m #[Value.ref b] below meth c H [] 600000 7302249 (lw_Z below #[Value.ref b] s) (F0 m pc ls [.int 1]) := by
  intro T hT X
  obtain ⟨fs, hret, hrun, hended, hW, hframe⟩ := X.leave (v := some (.int 1)) (hlocks := hlocks) (fun h => by rw [hr] at h; cases h)
  have hmeth' : T.vm.method? m = some meth := X.method'
  refine ⟨T.setFrames fs, ?_, .returned (some (.int 1)), hrun, hended, rfl, ⟨_, rfl⟩, hW, hframe⟩
  jvm_step X.here [X.here.top, hx, hb, hdg, hmeth', hr, ret, narrow_b1]
  (try refine ⟨rfl, ?_⟩); (try refine ⟨rfl, ?_⟩)
  first | (intro acts; rw [hret _ acts rfl rfl rfl]) | rw [hret _ _ rfl rfl rfl]
  exact Steps.refl _
/-- what holds at the law's entry: the machine, the code, the tables' words (any of lw_tbl by 'hts w (by decide +kernel)'), the script of L ints xs at the cell b, what the Statement gives of the start (any of its parts by flat_of_before) -/
def lw_At (p : Program) (s : State) (m : MethodId) (meth : Method) (c : Code) (b L : Nat) (xs : Nat → Int32) : Prop :=
  p.tables.exec = Jvm.exec ∧ c.code = code ∧ meth.sig.returnType = ret ∧ c.maxLocals = 4 ∧ s.vm.findClass R_law = some m.cls ∧ (∀ w ∈ lw_tbl, w.before #[Value.ref b] s = true) ∧ va_X b L xs s s.heap ∧ b < s.heap.size ∧ meth.locks = false ∧ (Jvm.Cond.and given_1 narrow_1).before #[Value.ref b] s = true
/-! the law's loop, out of the small machine -/
section LAWS
variable {p : Program} {l : Launch} {e : Env} {s : State} {m : MethodId} {below : List Frame} {meth : Method} {c : Code} {b L : Nat} {xs : Nat → Int32} {S : sG}
def lawQ : sQ := fun v _ _ _ => v = 1
theorem law_ret {ce sl : Nat} (hc : ce ≤ 600000 ∧ sl ≤ 7302249) (C0 : lw_At p s m meth c b L xs) (hnew : ∀ q, Aw S q → s.heap.size ≤ q) : RetOk S 253 lawQ p l e room_1 s m #[Value.ref b] below meth c ce sl (lw_Z below #[Value.ref b] s) := by
  obtain ⟨hx, hb, hr, hml, hown, hts, hX, hbl, hlocks, hgv⟩ := C0
  intro H locs A pc μ hw hS
  refine ⟨fun x h1 hd hq => ?_, fun x h1 => ?_, fun x h1 => ?_, fun t i h1 => ?_, fun h1 => ?_⟩
  · obtain rfl : x = 1 := hq
    refine va_forget (fun q hq => hnew _ (hS.2.2 q hq)) ?_
    refine W.widen hc.1 hc.2 ?_
    exact lw_ret hx hb hr hlocks hd
  · exact absurd h1 (by decide)
  · exact absurd h1 (by decide)
  · exact absurd h1 (by decide)
  · exact absurd h1 (by decide)
theorem law_W {ce sl D : Nat} (hc : ce ≤ 600000 ∧ sl ≤ 7302249) (hDp : D ≤ 1000) (C0 : lw_At p s m meth c b L xs) (hj : injS S) (hKU : KU S s) (hSU : SU S s s.heap) (hnew : ∀ q, Aw S q → s.heap.size ≤ q) (h59 : gA S 59 0 = b) (hx0 : gX S 0 = xs) (hx1 : gX S 1 0 = nI L) (hL : L ≤ 3072)
    {μ : sM} {ls : sO} (hrun : Run kL_law (Call D) lawQ 16 ls [] μ) : PW S 253 True p l e room_1 s m #[Value.ref b] below meth c ce sl (lw_Z below #[Value.ref b] s) 16 ls [] μ := by
  have C1 := C0
  obtain ⟨hx, hb, hr, hml, hown, hts, hX, hbl, hlocks, hgv⟩ := C1
  have hcl : (nI L).toNatClampNeg = L := nI_clamp (by omega)
  have X : Cx S 253 D True p room_1 s m #[Value.ref b] c ce sl := by
    refine ⟨hx, hb, hml, hown, fun w hw => hts w (gd_tbl hw), hKU, hSU, hj, ⟨by show D + 5 ≤ 2048; omega, by show 64 * (D + 5) ≤ 84000; omega⟩, hc, fun _ => ?_, by omega⟩
    rw [h59, hx0, hx1, hcl]
    exact ⟨hX, hbl, fun h => absurd (hnew _ h) (by omega), rfl⟩
  exact hrun _ (step_ok X (call_ok hj l D) (law_ret hc C0 hnew) (str_ok X))
end LAWS
