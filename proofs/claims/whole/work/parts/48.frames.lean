/-! what is kept when only some groups change -/
section FR
variable {κ : Nat} {μ μ' : sM} {ξ : Nat → Nat → Int32}
def f_rc (a i k : Nat) : Prop := (fT a i k ∨ fO a i k) ∧ ¬ fR a i k
theorem INV.rc (hI : INV ξ μ) (e : frm f_rc μ μ') (e2 : μ'.2 = μ.2) (hR : (∃ rc, rcG μ' rc)) : INV ξ μ' := by
  refine hI.oth (e.sub (fun a i k z => ⟨Or.inl z, (by unfold fT at z; unfold fR; omega)⟩)) e2 (fun κ h => ⟨?_, hR, ?_, ?_, ?_, ?_, ?_, h.sc e (fun i k => ⟨Or.inr o_59, (by unfold fR; omega)⟩)⟩)
  · exact h.1.fr (e.sub (fun a i k z => ⟨Or.inr (o_S z), (by unfold fS at z; unfold fR; omega)⟩))
  · obtain ⟨v0, v1, v2, v3, q⟩ := h.2.2.1; exact ⟨v0, v1, v2, v3, q.fr (e.sub (fun a i k z => ⟨Or.inr (o_N z), (by unfold fN at z; unfold fR; omega)⟩))⟩
  · obtain ⟨v0, v1, q⟩ := h.2.2.2.1; exact ⟨v0, v1, q.fr (e.sub (fun a i k z => ⟨Or.inr (o_P z), (by unfold fP at z; unfold fR; omega)⟩))⟩
  · obtain ⟨v0, q⟩ := h.2.2.2.2.1; exact ⟨v0, q.fr (e.sub (fun a i k z => ⟨Or.inr (o_X z), (by unfold fX at z; unfold fR; omega)⟩))⟩
  · exact h.2.2.2.2.2.1.fr (e.sub (fun a i k z => ⟨Or.inr (o_F z), (by unfold fF at z; unfold fR; omega)⟩))
  · obtain ⟨v0, v1, v2, v3, v4, v5, q⟩ := h.2.2.2.2.2.2.1; exact ⟨v0, v1, v2, v3, v4, v5, q.fr (e.sub (fun a i k z => ⟨Or.inr (o_L z), (by unfold fL at z; unfold fR; omega)⟩))⟩
def f_nv (a i k : Nat) : Prop := (fT a i k ∨ fO a i k) ∧ ¬ fN a i k ∧ ¬ fP a i k
theorem INV.nv (hI : INV ξ μ) (e : frm f_nv μ μ') (e2 : μ'.2 = μ.2) (hN : (∃ nv p w q, nvG μ' nv p w q)) (hP : (∃ tl tp, tpG μ' tl tp)) : INV ξ μ' := by
  refine hI.oth (e.sub (fun a i k z => ⟨Or.inl z, (by unfold fT at z; unfold fN; omega), (by unfold fT at z; unfold fP; omega)⟩)) e2 (fun κ h => ⟨?_, ?_, hN, hP, ?_, ?_, ?_, h.sc e (fun i k => ⟨Or.inr o_59, (by unfold fN; omega), (by unfold fP; omega)⟩)⟩)
  · exact h.1.fr (e.sub (fun a i k z => ⟨Or.inr (o_S z), (by unfold fS at z; unfold fN; omega), (by unfold fS at z; unfold fP; omega)⟩))
  · obtain ⟨v0, q⟩ := h.2.1; exact ⟨v0, q.fr (e.sub (fun a i k z => ⟨Or.inr (o_R z), (by unfold fR at z; unfold fN; omega), (by unfold fR at z; unfold fP; omega)⟩))⟩
  · obtain ⟨v0, q⟩ := h.2.2.2.2.1; exact ⟨v0, q.fr (e.sub (fun a i k z => ⟨Or.inr (o_X z), (by unfold fX at z; unfold fN; omega), (by unfold fX at z; unfold fP; omega)⟩))⟩
  · exact h.2.2.2.2.2.1.fr (e.sub (fun a i k z => ⟨Or.inr (o_F z), (by unfold fF at z; unfold fN; omega), (by unfold fF at z; unfold fP; omega)⟩))
  · obtain ⟨v0, v1, v2, v3, v4, v5, q⟩ := h.2.2.2.2.2.2.1; exact ⟨v0, v1, v2, v3, v4, v5, q.fr (e.sub (fun a i k z => ⟨Or.inr (o_L z), (by unfold fL at z; unfold fN; omega), (by unfold fL at z; unfold fP; omega)⟩))⟩
def f_tp (a i k : Nat) : Prop := (fT a i k ∨ fO a i k) ∧ ¬ fP a i k
theorem INV.tp (hI : INV ξ μ) (e : frm f_tp μ μ') (e2 : μ'.2 = μ.2) (hP : (∃ tl tp, tpG μ' tl tp)) : INV ξ μ' := by
  refine hI.oth (e.sub (fun a i k z => ⟨Or.inl z, (by unfold fT at z; unfold fP; omega)⟩)) e2 (fun κ h => ⟨?_, ?_, ?_, hP, ?_, ?_, ?_, h.sc e (fun i k => ⟨Or.inr o_59, (by unfold fP; omega)⟩)⟩)
  · exact h.1.fr (e.sub (fun a i k z => ⟨Or.inr (o_S z), (by unfold fS at z; unfold fP; omega)⟩))
  · obtain ⟨v0, q⟩ := h.2.1; exact ⟨v0, q.fr (e.sub (fun a i k z => ⟨Or.inr (o_R z), (by unfold fR at z; unfold fP; omega)⟩))⟩
  · obtain ⟨v0, v1, v2, v3, q⟩ := h.2.2.1; exact ⟨v0, v1, v2, v3, q.fr (e.sub (fun a i k z => ⟨Or.inr (o_N z), (by unfold fN at z; unfold fP; omega)⟩))⟩
  · obtain ⟨v0, q⟩ := h.2.2.2.2.1; exact ⟨v0, q.fr (e.sub (fun a i k z => ⟨Or.inr (o_X z), (by unfold fX at z; unfold fP; omega)⟩))⟩
  · exact h.2.2.2.2.2.1.fr (e.sub (fun a i k z => ⟨Or.inr (o_F z), (by unfold fF at z; unfold fP; omega)⟩))
  · obtain ⟨v0, v1, v2, v3, v4, v5, q⟩ := h.2.2.2.2.2.2.1; exact ⟨v0, v1, v2, v3, v4, v5, q.fr (e.sub (fun a i k z => ⟨Or.inr (o_L z), (by unfold fL at z; unfold fP; omega)⟩))⟩
def f_tr (a i k : Nat) : Prop := (fT a i k ∨ fO a i k) ∧ ¬ fX a i k
theorem INV.tr (hI : INV ξ μ) (e : frm f_tr μ μ') (e2 : μ'.2 = μ.2) (hX : (∃ nt, trG μ' nt)) : INV ξ μ' := by
  refine hI.oth (e.sub (fun a i k z => ⟨Or.inl z, (by unfold fT at z; unfold fX; omega)⟩)) e2 (fun κ h => ⟨?_, ?_, ?_, ?_, hX, ?_, ?_, h.sc e (fun i k => ⟨Or.inr o_59, (by unfold fX; omega)⟩)⟩)
  · exact h.1.fr (e.sub (fun a i k z => ⟨Or.inr (o_S z), (by unfold fS at z; unfold fX; omega)⟩))
  · obtain ⟨v0, q⟩ := h.2.1; exact ⟨v0, q.fr (e.sub (fun a i k z => ⟨Or.inr (o_R z), (by unfold fR at z; unfold fX; omega)⟩))⟩
  · obtain ⟨v0, v1, v2, v3, q⟩ := h.2.2.1; exact ⟨v0, v1, v2, v3, q.fr (e.sub (fun a i k z => ⟨Or.inr (o_N z), (by unfold fN at z; unfold fX; omega)⟩))⟩
  · obtain ⟨v0, v1, q⟩ := h.2.2.2.1; exact ⟨v0, v1, q.fr (e.sub (fun a i k z => ⟨Or.inr (o_P z), (by unfold fP at z; unfold fX; omega)⟩))⟩
  · exact h.2.2.2.2.2.1.fr (e.sub (fun a i k z => ⟨Or.inr (o_F z), (by unfold fF at z; unfold fX; omega)⟩))
  · obtain ⟨v0, v1, v2, v3, v4, v5, q⟩ := h.2.2.2.2.2.2.1; exact ⟨v0, v1, v2, v3, v4, v5, q.fr (e.sub (fun a i k z => ⟨Or.inr (o_L z), (by unfold fL at z; unfold fX; omega)⟩))⟩
def f_fd (a i k : Nat) : Prop := (fT a i k ∨ fO a i k) ∧ ¬ fF a i k
theorem INV.fd (hI : INV ξ μ) (e : frm f_fd μ μ') (e2 : μ'.2 = μ.2) (hF : stG μ') : INV ξ μ' := by
  refine hI.oth (e.sub (fun a i k z => ⟨Or.inl z, (by unfold fT at z; unfold fF; omega)⟩)) e2 (fun κ h => ⟨?_, ?_, ?_, ?_, ?_, hF, ?_, h.sc e (fun i k => ⟨Or.inr o_59, (by unfold fF; omega)⟩)⟩)
  · exact h.1.fr (e.sub (fun a i k z => ⟨Or.inr (o_S z), (by unfold fS at z; unfold fF; omega)⟩))
  · obtain ⟨v0, q⟩ := h.2.1; exact ⟨v0, q.fr (e.sub (fun a i k z => ⟨Or.inr (o_R z), (by unfold fR at z; unfold fF; omega)⟩))⟩
  · obtain ⟨v0, v1, v2, v3, q⟩ := h.2.2.1; exact ⟨v0, v1, v2, v3, q.fr (e.sub (fun a i k z => ⟨Or.inr (o_N z), (by unfold fN at z; unfold fF; omega)⟩))⟩
  · obtain ⟨v0, v1, q⟩ := h.2.2.2.1; exact ⟨v0, v1, q.fr (e.sub (fun a i k z => ⟨Or.inr (o_P z), (by unfold fP at z; unfold fF; omega)⟩))⟩
  · obtain ⟨v0, q⟩ := h.2.2.2.2.1; exact ⟨v0, q.fr (e.sub (fun a i k z => ⟨Or.inr (o_X z), (by unfold fX at z; unfold fF; omega)⟩))⟩
  · obtain ⟨v0, v1, v2, v3, v4, v5, q⟩ := h.2.2.2.2.2.2.1; exact ⟨v0, v1, v2, v3, v4, v5, q.fr (e.sub (fun a i k z => ⟨Or.inr (o_L z), (by unfold fL at z; unfold fF; omega)⟩))⟩
end FR
