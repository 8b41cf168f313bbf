/-! a thing goes and comes home; what a move leaves as it was -/
section HM
variable {n k c q a b o : Nat} {so : Nat → Nat} {T : tT}
theorem up_A : zA (upT T k) = zA T := by unfold upT; split <;> rfl
theorem up_C : zC (upT T k) = zC T := by unfold upT; split <;> rfl
theorem up_I : zI (upT T k) = zI T := by unfold upT; split <;> rfl
theorem up_B (hq : q ≠ k) : zB (upT T k) q = zB T q := by
  unfold upT
  split
  · rfl
  · exact updN_n hq
theorem up_Bk : zB (upT T k) k = 9 := by
  unfold upT
  split
  · assumption
  · exact updN_s
theorem up_S9 (e : zB T k = 9) : zS (upT T k) = updN (zS T) (zC T k) (zS T (zC T k) - 1) := by unfold upT; rw [if_pos e]
theorem up_Sn (e : ¬ zB T k = 9) : zS (upT T k) = zS T := by unfold upT; rw [if_neg e]
theorem up_N9 (e : zB T k = 9) : zN (upT T k) = zN T := by unfold upT; rw [if_pos e]
theorem up_Nn (e : ¬ zB T k = 9) : zN (upT T k) = updN (zN T) (zB T k) 9 := by unfold upT; rw [if_neg e]
theorem go_c (h : a < 8) : goT T k a = pcT (upT T k) k a := if_pos h
theorem go_b (h : ¬ a < 8) : goT T k a = pbT (upT T k) k (a - 8) := if_neg h
theorem go_oth (hq : q ≠ k) : zB (goT T k a) q = zB T q ∧ zC (goT T k a) q = zC T q ∧ zI (goT T k a) q = zI T q := by
  by_cases h : a < 8
  · rw [go_c h]
    refine ⟨up_B hq, ?_, ?_⟩
    · show updN (zC (upT T k)) k a q = _
      rw [updN_n hq, up_C]
    · show updN (zI (upT T k)) k _ q = _
      rw [updN_n hq, up_I]
  · rw [go_b h]
    refine ⟨?_, ?_, ?_⟩
    · show updN (zB (upT T k)) k (a - 8) q = _
      rw [updN_n hq, up_B hq]
    · show zC (upT T k) q = _
      rw [up_C]
    · show zI (upT T k) q = _
      rw [up_I]
/-- the pile under another thing stays -/
theorem up_und (hw : wfT so n T) (hk : k < n) (hc : zB T k = 9 → zI T k + 1 = zS T (zC T k)) (hq : q ≠ k) (hqn : q < n) (hb : zB T q = 9) : zI T q < zS (upT T k) (zC T q) := by
  have g := hw.2.1 q hqn hb
  by_cases e : zB T k = 9
  · rw [up_S9 e]
    by_cases e2 : zC T q = zC T k
    · rw [e2, updN_s]
      have g2 := hw.2.1 k hk e
      have h3 := hc e
      have : zI T q ≠ zI T k := fun z => hq (by
        have := g.2.2
        rw [e2, z, g2.2.2] at this
        exact this.symm)
      rw [e2] at g
      omega
    · rw [updN_n e2]; exact g.2.1
  · rw [up_Sn e]; exact g.2.1
theorem go_bl (hw : wfT so n T) (hk : k < n) (hc : zB T k = 9 → zI T k + 1 = zS T (zC T k)) (hq : q ≠ k) (hqn : q < n) : blT (goT T k a) q = blT T q := by
  have g := go_oth (T := T) (a := a) hq
  unfold blT
  rw [g.1, g.2.1, g.2.2]
  by_cases e : zB T q = 9 ∧ 0 < zI T q
  · rw [if_pos e, if_pos e]
    have h := up_und hw hk hc hq hqn e.1
    by_cases ha : a < 8
    · rw [go_c ha]
      show (if zC T q = a ∧ zI T q - 1 = zS (upT T k) a then k else zA (upT T k) (zC T q) (zI T q - 1)) = _
      rw [if_neg (fun z => by rw [← z.1] at z; omega), up_A]
    · rw [go_b ha]
      show zA (upT T k) _ _ = _
      rw [up_A]
  · rw [if_neg e, if_neg e]
theorem go_sp (hq : q ≠ k) : spT (goT T k a) q = spT T q := by
  have g := go_oth (T := T) (a := a) hq
  unfold spT
  rw [g.1, g.2.1]
theorem go_spk (ha : a < 14) : spT (goT T k a) k = a := by
  unfold spT
  by_cases h : a < 8
  · rw [go_c h]
    show (if zB (upT T k) k = 9 then updN (zC (upT T k)) k a k else 8 + zB (upT T k) k) = a
    rw [if_pos up_Bk, updN_s]
  · rw [go_b h]
    show (if updN (zB (upT T k)) k (a - 8) k = 9 then _ else 8 + updN (zB (upT T k)) k (a - 8) k) = a
    rw [updN_s, if_neg (by omega)]
    omega
/-- taken up again, all is as when it was first taken up -/
theorem up_go (ha : a < 14) : (∀ c, zS (upT (goT T k a) k) c = zS (upT T k) c) ∧ (∀ c i, i < zS (upT T k) c → zA (upT (goT T k a) k) c i = zA T c i) ∧ ((8 ≤ a → zN (upT T k) (a - 8) = 9) → ∀ b, zN (upT (goT T k a) k) b = zN (upT T k) b) := by
  by_cases h : a < 8
  · have eB : zB (goT T k a) k = 9 := by rw [go_c h]; exact up_Bk
    have eC : zC (goT T k a) k = a := by rw [go_c h]; exact updN_s
    have eS : ∀ c, zS (goT T k a) c = updN (zS (upT T k)) a (zS (upT T k) a + 1) c := fun c => by rw [go_c h]; rfl
    refine ⟨fun c => ?_, fun c i hi => ?_, fun _ b => ?_⟩
    · rw [up_S9 eB, eC]
      by_cases e : c = a
      · subst e; rw [updN_s, eS, updN_s]; omega
      · rw [updN_n e, eS, updN_n e]
    · rw [up_A, go_c h]
      show (if c = a ∧ i = zS (upT T k) a then k else zA (upT T k) c i) = _
      rw [if_neg (fun z => by rw [z.1] at hi; omega), up_A]
    · rw [up_N9 eB, go_c h]; rfl
  · have eB : ¬ zB (goT T k a) k = 9 := by
      rw [go_b h]
      show ¬ updN (zB (upT T k)) k (a - 8) k = 9
      rw [updN_s]; omega
    have eB2 : zB (goT T k a) k = a - 8 := by rw [go_b h]; exact updN_s
    refine ⟨fun c => ?_, fun c i hi => ?_, fun hN b => ?_⟩
    · rw [up_Sn eB, go_b h]; rfl
    · rw [up_A, go_b h]
      show zA (upT T k) c i = _
      rw [up_A]
    · rw [up_Nn eB, eB2, go_b h]
      show updN (updN (zN (upT T k)) (a - 8) k) (a - 8) 9 b = _
      by_cases e : b = a - 8
      · subst e; rw [updN_s]; exact (hN (by omega)).symm
      · rw [updN_n e, updN_n e]
theorem go_home (hw : wfT so n T) (hn : n ≤ 6) (hk : k < n) (ha : a < 14) (hg : cgT so n T k a) :
    (zB (goT T k a) k = 9 → zI (goT T k a) k + 1 = zS (goT T k a) (zC (goT T k a) k)) ∧ (spT T k < 8 ∨ 8 ≤ spT T k ∧ spT T k - 8 < n ∧ zN (upT (goT T k a) k) (spT T k - 8) = 9) ∧ eqT n T (goT (goT T k a) k (spT T k)) := by
  have hc := fr_clear hg.1
  have hw' := wf_go hw hn hk ha hg
  have hG := cg_go hw hg ha
  have hN : 8 ≤ a → zN (upT T k) (a - 8) = 9 := fun z => by
    rcases hG.2 with h | h
    · omega
    · exact h.2.2
  have U := up_go (T := T) (k := k) ha
  have UN := U.2.2 hN
  have hs := wf_spot hw hn hk
  have htop : zB (goT T k a) k = 9 → zI (goT T k a) k + 1 = zS (goT T k a) (zC (goT T k a) k) := by
    intro e
    by_cases h : a < 8
    · rw [go_c h]
      show updN (zI (upT T k)) k (zS (upT T k) a) k + 1 = updN (zS (upT T k)) a (zS (upT T k) a + 1) (updN (zC (upT T k)) k a k)
      rw [updN_s, updN_s, updN_s]
    · rw [go_b h] at e
      have e : updN (zB (upT T k)) k (a - 8) k = 9 := e
      rw [updN_s] at e
      omega
  have hto : spT T k < 8 ∨ 8 ≤ spT T k ∧ spT T k - 8 < n ∧ zN (upT (goT T k a) k) (spT T k - 8) = 9 := by
    by_cases e : zB T k = 9
    · exact Or.inl (by have := hs.2.2.2 e; omega)
    · have h1 := hs.2.2.1 e
      refine Or.inr ⟨by omega, by omega, ?_⟩
      rw [UN, up_Nn e, h1.1, Nat.add_sub_cancel_left, updN_s]
  refine ⟨htop, hto, ?_⟩
  have w1 := wf_up hw' hn hk htop
  have hw'' : wfT so n (goT (goT T k a) k (spT T k)) := by
    by_cases e : zB T k = 9
    · have h1 := hs.2.2.2 e
      rw [go_c (by omega)]
      exact wf_pc w1 (by omega)
    · have h1 := hs.2.2.1 e
      have h2 := hw.2.2.1 k hk e
      have hne : zB T k ≠ k := fun z => e (by have := h2.2.1; rw [z] at this; exact this)
      rw [go_b (by omega), h1.1, Nat.add_sub_cancel_left]
      refine wf_pb w1 hn h1.2 ?_ h2.2.2.1 h2.2.2.2.1 ?_
      · rw [up_B hne, (go_oth hne).1]; exact h2.2.1
      · rw [UN, up_Nn e, updN_s]
  refine sm_eq hw hw'' hn (fun q hq => ?_)
  by_cases e : q = k
  · subst e
    refine ⟨go_spk hs.1, ?_⟩
    by_cases e : zB T q = 9
    · have h1 := hs.2.2.2 e
      have h2 := hw.2.1 q hk e
      have h3 := hc e
      have eS : zS (upT (goT T q a) q) (spT T q) = zI T q := by
        rw [U.1, up_S9 e, h1.1, updN_s]; omega
      have f8 : spT T q < 8 := by omega
      have f1 : zB (goT (goT T q a) q (spT T q)) q = 9 := by rw [go_c f8]; exact up_Bk
      have f2 : zC (goT (goT T q a) q (spT T q)) q = zC T q := by
        rw [go_c f8, ← h1.1]; exact updN_s
      have f3 : zI (goT (goT T q a) q (spT T q)) q = zI T q := by
        rw [go_c f8]
        exact updN_s.trans eS
      have f4 : 0 < zI T q → zA (goT (goT T q a) q (spT T q)) (zC T q) (zI T q - 1) = zA T (zC T q) (zI T q - 1) := by
        intro e4
        rw [go_c f8]
        show (if zC T q = spT T q ∧ zI T q - 1 = zS (upT (goT T q a) q) (spT T q) then q else zA (upT (goT T q a) q) (zC T q) (zI T q - 1)) = _
        rw [eS, if_neg (fun z => by omega), U.2.1 _ _ (by rw [up_S9 e, updN_s]; omega)]
      unfold blT
      rw [f1, f2, f3]
      by_cases e4 : 0 < zI T q
      · rw [if_pos (⟨rfl, e4⟩ : 9 = 9 ∧ 0 < zI T q), if_pos (⟨e, e4⟩ : zB T q = 9 ∧ 0 < zI T q), f4 e4]
      · rw [if_neg (fun z => e4 z.2 : ¬ (9 = 9 ∧ 0 < zI T q)), if_neg (fun z => e4 z.2 : ¬ (zB T q = 9 ∧ 0 < zI T q))]
    · have h1 := hs.2.2.1 e
      have f8 : ¬ spT T q < 8 := by omega
      have f1 : zB (goT (goT T q a) q (spT T q)) q = spT T q - 8 := by rw [go_b f8]; exact updN_s
      unfold blT
      rw [f1, if_neg (fun z => by have := z.1; omega), if_neg (fun z => e z.1)]
  · rw [go_sp e, go_sp e, go_bl hw' hk htop e hq, go_bl hw hk hc e hq]
    exact ⟨rfl, rfl⟩
/-- a last move of a thing that can't end an order doesn't end it -/
theorem prune (hw : wfT so n T) (hk : k < n) (hg : cgT so n T k a) (hce : ¬ ceT so o k) (he : ¬ enT so n T o) : ¬ enT so n (goT T k a) o := by
  have hc := fr_clear hg.1
  have key : ∀ q, q < n → so q = o / 2 % 4 → atT so n (goT T k a) q (o / 8 % 3) (o / 24) → atT so n T q (o / 8 % 3) (o / 24) := by
    intro q hq hs h
    have hqk : q ≠ k := fun z => hce (Or.inl (by rw [← z]; exact hs))
    have g := go_oth (T := T) (a := a) hqk
    unfold atT at h ⊢
    by_cases r1 : o / 8 % 3 = 1
    · rw [if_pos r1] at h ⊢
      rw [g.1] at h
      exact h
    · rw [if_neg r1] at h ⊢
      by_cases r0 : o / 8 % 3 = 0
      · rw [if_pos r0] at h ⊢
        rw [go_bl hw hk hc hqk hq] at h
        exact h
      · rw [if_neg r0] at h ⊢
        rw [go_bl hw hk hc hqk hq, g.1, g.2.1] at h
        obtain ⟨z1, z2, p, hp, z3, z4, z5⟩ := h
        have hpk : p ≠ k := fun z => hce (Or.inr ⟨by omega, by rw [← z]; exact z4⟩)
        have g2 := go_oth (T := T) (a := a) hpk
        rw [g2.1] at z3
        rw [g2.2.1] at z5
        exact ⟨z1, z2, p, hp, z3, z4, z5⟩
  intro h
  have le := sumN_ge (f := fun i => tB (so i = o / 2 % 4 ∧ atT so n (goT T k a) i (o / 8 % 3) (o / 24))) (g := fun i => tB (so i = o / 2 % 4 ∧ atT so n T i (o / 8 % 3) (o / 24))) (m := n) (fun q hq => by
    by_cases e : so q = o / 2 % 4 ∧ atT so n (goT T k a) q (o / 8 % 3) (o / 24)
    · have e2 : tB (so q = o / 2 % 4 ∧ atT so n T q (o / 8 % 3) (o / 24)) = 1 := tB_t ⟨e.1, key q hq e.1 e.2⟩
      rw [e2]; exact tB_le
    · rw [tB_f e]; exact Nat.zero_le _)
  have le2 := sumN_ge (f := fun i => tB (so i = o / 2 % 4 ∧ atT so n T i (o / 8 % 3) (o / 24))) (g := fun i => if so i = o / 2 % 4 then 1 else 0) (m := n) (fun q hq => by
    by_cases e : so q = o / 2 % 4
    · rw [if_pos e]; exact tB_le
    · rw [tB_f (fun z => e z.1)]; exact Nat.zero_le _)
  have l1 : asT so n (goT T k a) (o / 2 % 4) (o / 8 % 3) (o / 24) n ≤ asT so n T (o / 2 % 4) (o / 8 % 3) (o / 24) n := le.1
  have l2 : asT so n T (o / 2 % 4) (o / 8 % 3) (o / 24) n ≤ thT so (o / 2 % 4) n := le2.1
  refine he ⟨by have := h.1; omega, fun z => ?_⟩
  have := h.2 z
  omega
end HM
