/-! at first -/
section INI
variable {L : Nat} {xs : Nat → Int32}
def T0 : tT := (fun _ => 0, fun _ _ => 0, fun _ => 9, fun _ => 0, fun _ => 0, fun _ => 9)
theorem wf_T0 : wfT (fun _ => 0) 0 T0 := by
  refine ⟨fun c i _ hi => absurd hi (Nat.not_lt_zero i), fun k hk => absurd hk (Nat.not_lt_zero k), fun k hk => absurd hk (Nat.not_lt_zero k), fun k hk => absurd hk (Nat.not_lt_zero k), fun k _ => ⟨rfl, rfl⟩⟩
theorem inv_0 : INV (scr xs L) (mu0 (scr xs L)) := by
  have S8 : ∀ s, s < 8 → (mu0 (scr xs L)).1 2 0 s = -1 ∧ (mu0 (scr xs L)).1 51 0 s = -1 := by
    intro s hs
    refine ⟨if_pos hs, ?_⟩
    rcases (by omega : s = 0 ∨ s = 1 ∨ s = 2 ∨ s = 3 ∨ s = 4 ∨ s = 5 ∨ s = 6 ∨ s = 7) with rfl | rfl | rfl | rfl | rfl | rfl | rfl | rfl <;> rfl
  have TV : ∀ k, k < 62 → (mu0 (scr xs L)).1 42 0 k = if k < 56 ∧ k % 7 = 0 then 0 else -1 := by
    intro k hk
    show (if k < 6696 then (if k % 62 < 56 ∧ k % 62 % 7 = 0 then 0 else -1) else 0) = _
    rw [if_pos (by omega), show k % 62 = k by omega]
  have N6 : ∀ t, 9 ≤ t → t ≤ 11 → ∀ k, k < 6 → (mu0 (scr xs L)).1 t 0 k = nONE := by
    intro t h1 h2 k hk
    rcases (by omega : t = 9 ∨ t = 10 ∨ t = 11) with rfl | rfl | rfl <;> exact if_pos hk
  refine ⟨0, fun _ => 0, fun _ => 0, 0, fun _ => T0, 0, ⟨⟨rfl, by decide, fun k hk => absurd hk (Nat.not_lt_zero k)⟩, ⟨rfl, by decide, fun k hk => absurd hk (Nat.not_lt_zero k)⟩, by decide, rfl, rfl, fun t _ => wf_T0, ⟨fun k hk => absurd hk (Nat.not_lt_zero k), fun k _ hk => ⟨N6 9 (by decide) (by decide) k hk, N6 10 (by decide) (by decide) k hk⟩, fun b hb => N6 11 (by decide) (by decide) b hb, fun c hc => if_pos hc⟩, fun k hk => absurd hk (Nat.not_lt_zero k), fun t ht => ?_⟩, ⟨Nat.le_refl _, rfl, fun k hk => absurd hk (Nat.not_lt_zero k)⟩, ⟨fun _ => 9, fun _ => 0, fun _ => 0, fun s _ => ⟨Or.inl rfl, Nat.zero_le 40⟩, ⟨fun s hs => ⟨(S8 s hs).1, fun z => absurd rfl z⟩, fun k _ => rfl⟩, ⟨fun s hs => ⟨(S8 s hs).2, fun z => absurd rfl z⟩, fun k _ => rfl⟩⟩, ⟨fun _ => 255, fun a ha => ?_⟩, ⟨0, fun _ => 0, fun _ => 0, fun _ => 0, by decide, rfl, rfl, rfl, fun k hk => absurd hk (Nat.not_lt_zero k)⟩, ⟨0, fun _ => 0, by decide, rfl, rfl, rfl, fun k hk => absurd hk (Nat.not_lt_zero k)⟩, ⟨0, by decide, rfl, rfl, fun k hk => absurd hk (Nat.not_lt_zero k)⟩, rfl, ⟨0, fun _ => 0, fun _ => 0, fun _ => 0, fun _ => 0, fun _ => 0, by decide, rfl, rfl, fun k hk => absurd hk (Nat.not_lt_zero k), fun k hk => absurd hk (Nat.not_lt_zero k), fun k hk => absurd hk (Nat.not_lt_zero k), fun k _ _ => rfl⟩, rfl⟩
  · have t0 : t = 0 := by omega
    subst t0
    refine ⟨fun c hc => ?_, fun c i hc hi => ?_, fun k hk => ?_⟩
    · rw [TV _ (by omega), if_pos (by omega)]; rfl
    · rw [TV _ (by omega), if_neg (by omega)]
      exact (if_neg (Nat.not_lt_zero i)).symm
    · rw [TV _ (by omega), if_neg (by omega)]; rfl
  · refine ⟨show 255 < 256 by decide, ?_, ?_⟩
    · rcases (by omega : a = 0 ∨ a = 1) with rfl | rfl <;> rfl
    · rcases (by omega : a = 0 ∨ a = 1) with rfl | rfl <;> rfl
end INI
