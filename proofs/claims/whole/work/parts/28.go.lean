/-! a thing is taken up, and put -/
def updN (f : Nat → Nat) (k v : Nat) : Nat → Nat := fun j => if j = k then v else f j
theorem updN_s {f : Nat → Nat} {k v : Nat} : updN f k v k = v := if_pos rfl
theorem updN_n {f : Nat → Nat} {k v j : Nat} (h : j ≠ k) : updN f k v j = f j := if_neg h
def upT (T : tT) (k : Nat) : tT := if zB T k = 9 then (updN (zS T) (zC T k) (zS T (zC T k) - 1), zA T, zB T, zC T, zI T, zN T) else (zS T, zA T, updN (zB T) k 9, zC T, zI T, updN (zN T) (zB T k) 9)
def pcT (T : tT) (k c : Nat) : tT := (updN (zS T) c (zS T c + 1), fun c' i => if c' = c ∧ i = zS T c then k else zA T c' i, zB T, updN (zC T) k c, updN (zI T) k (zS T c), zN T)
def pbT (T : tT) (k b : Nat) : tT := (zS T, zA T, updN (zB T) k b, zC T, zI T, updN (zN T) b k)
def goT (T : tT) (k to : Nat) : tT := if to < 8 then pcT (upT T k) k to else pbT (upT T k) k (to - 8)
/-- all things are somewhere but k, which is in hand -/
def wf1 (so : Nat → Nat) (n : Nat) (T : tT) (k : Nat) : Prop :=
  (∀ c i, c < 8 → i < zS T c → zA T c i < n ∧ zA T c i ≠ k ∧ zB T (zA T c i) = 9 ∧ zC T (zA T c i) = c ∧ zI T (zA T c i) = i) ∧
  (∀ j, j < n → j ≠ k → zB T j = 9 → zC T j < 8 ∧ zI T j < zS T (zC T j) ∧ zA T (zC T j) (zI T j) = j) ∧
  (∀ j, j < n → j ≠ k → zB T j ≠ 9 → zB T j < n ∧ zB T (zB T j) = 9 ∧ so (zB T j) = 2 ∧ so j ≠ 2 ∧ zN T (zB T j) = j) ∧
  (∀ b, b < n → zN T b ≠ 9 → zN T b < n ∧ zN T b ≠ k ∧ zB T (zN T b) = b) ∧
  (∀ j, n ≤ j → zB T j = 9 ∧ zN T j = 9) ∧ k < n ∧ zB T k = 9
section TW
variable {so : Nat → Nat} {n k c b : Nat} {T : tT}
theorem wf_up (h : wfT so n T) (hn : n ≤ 6) (hk : k < n) (hc : zB T k = 9 → zI T k + 1 = zS T (zC T k)) : wf1 so n (upT T k) k := by
  unfold upT
  by_cases e : zB T k = 9
  · rw [if_pos e]
    have hc := hc e
    have h2 := h.2.1 k hk e
    refine ⟨fun c i hc1 hi => ?_, fun j hj hne hb => ?_, fun j hj hne hb => h.2.2.1 j hj hb, fun b hb hne => ?_, h.2.2.2.2, hk, e⟩
    · have hi : i < updN (zS T) (zC T k) (zS T (zC T k) - 1) c := hi
      have hi2 : i < zS T c ∧ (c = zC T k → i + 1 < zS T c) := by
        by_cases e2 : c = zC T k
        · subst e2; rw [updN_s] at hi; omega
        · rw [updN_n e2] at hi; exact ⟨hi, fun z => absurd z e2⟩
      have h3 := h.1 c i hc1 hi2.1
      refine ⟨h3.1, fun z => ?_, h3.2⟩
      have z : zA T c i = k := z
      rw [z] at h3
      have := hi2.2 h3.2.2.1.symm
      rw [← h3.2.2.1] at this
      omega
    · have h3 := h.2.1 j hj hb
      refine ⟨h3.1, ?_, h3.2.2⟩
      show zI T j < updN (zS T) (zC T k) (zS T (zC T k) - 1) (zC T j)
      by_cases e2 : zC T j = zC T k
      · rw [e2, updN_s]
        rw [e2] at h3
        have : zI T j ≠ zI T k := fun z => hne (by rw [← h3.2.2, z]; exact h2.2.2)
        omega
      · rw [updN_n e2]; exact h3.2.1
    · have h3 := h.2.2.2.1 b hb hne
      refine ⟨h3.1, fun z => ?_, h3.2⟩
      have z : zN T b = k := z
      rw [z, e] at h3
      omega
  · rw [if_neg e]
    have h2 := h.2.2.1 k hk e
    have hB : ∀ j, zB T j = 9 → updN (zB T) k 9 j = 9 := fun j hj => by
      by_cases e2 : j = k
      · subst e2; exact updN_s
      · rw [updN_n e2]; exact hj
    refine ⟨fun c i hc1 hi => ?_, fun j hj hne hb => ?_, fun j hj hne hb => ?_, fun b hb hne => ?_, fun j hj => ?_, hk, updN_s⟩
    · have h3 := h.1 c i hc1 hi
      refine ⟨h3.1, fun z => ?_, hB _ h3.2.1, h3.2.2⟩
      have z : zA T c i = k := z
      rw [z] at h3
      exact e h3.2.1
    · have hb : updN (zB T) k 9 j = 9 := hb
      rw [updN_n hne] at hb
      exact h.2.1 j hj hb
    · have hb : updN (zB T) k 9 j ≠ 9 := hb
      rw [updN_n hne] at hb
      have h3 := h.2.2.1 j hj hb
      show updN (zB T) k 9 j < n ∧ updN (zB T) k 9 (updN (zB T) k 9 j) = 9 ∧ so (updN (zB T) k 9 j) = 2 ∧ so j ≠ 2 ∧ updN (zN T) (zB T k) 9 (updN (zB T) k 9 j) = j
      rw [updN_n hne]
      refine ⟨h3.1, hB _ h3.2.1, h3.2.2.1, h3.2.2.2.1, ?_⟩
      rw [updN_n (fun z => hne ?_)]
      · exact h3.2.2.2.2
      · rw [← h3.2.2.2.2, z]; exact h2.2.2.2.2
    · have hne : updN (zN T) (zB T k) 9 b ≠ 9 := hne
      show updN (zN T) (zB T k) 9 b < n ∧ updN (zN T) (zB T k) 9 b ≠ k ∧ updN (zB T) k 9 (updN (zN T) (zB T k) 9 b) = b
      by_cases e2 : b = zB T k
      · subst e2; rw [updN_s] at hne; exact absurd rfl hne
      · rw [updN_n e2] at hne ⊢
        have h3 := h.2.2.2.1 b hb hne
        have e3 : zN T b ≠ k := fun z => e2 (by rw [← h3.2, z])
        exact ⟨h3.1, e3, by rw [updN_n e3]; exact h3.2⟩
    · have h3 := h.2.2.2.2 j hj
      refine ⟨hB j h3.1, ?_⟩
      show updN (zN T) (zB T k) 9 j = 9
      by_cases e2 : j = zB T k
      · subst e2; exact updN_s
      · rw [updN_n e2]; exact h3.2
theorem wf_pc (h : wf1 so n T k) (hc : c < 8) : wfT so n (pcT T k c) := by
  obtain ⟨h1, h2, h3, h4, h5, hk, hb⟩ := h
  refine ⟨fun c' i hc' hi => ?_, fun j hj hbj => ?_, fun j hj hbj => ?_, fun b' hb' hne => ?_, h5⟩
  · have hi : i < updN (zS T) c (zS T c + 1) c' := hi
    show (if c' = c ∧ i = zS T c then k else zA T c' i) < n ∧ zB T (if c' = c ∧ i = zS T c then k else zA T c' i) = 9 ∧ updN (zC T) k c (if c' = c ∧ i = zS T c then k else zA T c' i) = c' ∧ updN (zI T) k (zS T c) (if c' = c ∧ i = zS T c then k else zA T c' i) = i
    by_cases e : c' = c ∧ i = zS T c
    · rw [if_pos e, updN_s, updN_s]
      exact ⟨hk, hb, e.1.symm, e.2.symm⟩
    · rw [if_neg e]
      have hi2 : i < zS T c' := by
        by_cases e2 : c' = c
        · subst e2; rw [updN_s] at hi
          have : i ≠ zS T c' := fun z => e ⟨rfl, z⟩
          omega
        · rw [updN_n e2] at hi; exact hi
      have g := h1 c' i hc' hi2
      rw [updN_n g.2.1, updN_n g.2.1]
      exact ⟨g.1, g.2.2⟩
  · show updN (zC T) k c j < 8 ∧ updN (zI T) k (zS T c) j < updN (zS T) c (zS T c + 1) (updN (zC T) k c j) ∧ (if updN (zC T) k c j = c ∧ updN (zI T) k (zS T c) j = zS T c then k else zA T (updN (zC T) k c j) (updN (zI T) k (zS T c) j)) = j
    by_cases e : j = k
    · subst e
      rw [updN_s, updN_s, updN_s, if_pos ⟨rfl, rfl⟩]
      exact ⟨hc, by omega, rfl⟩
    · rw [updN_n e, updN_n e]
      have g := h2 j hj e hbj
      refine ⟨g.1, ?_, ?_⟩
      · by_cases e2 : zC T j = c
        · rw [e2, updN_s]; rw [e2] at g; omega
        · rw [updN_n e2]; exact g.2.1
      · rw [if_neg (fun z => by have := g.2.1; rw [z.1] at this; omega)]
        exact g.2.2
  · by_cases e : j = k
    · subst e; exact absurd hb hbj
    · exact h3 j hj e hbj
  · have g := h4 b' hb' hne
    exact ⟨g.1, g.2.2⟩
theorem wf_pb (h : wf1 so n T k) (hn : n ≤ 6) (hb : b < n) (hbb : zB T b = 9) (hs : so b = 2) (hs2 : so k ≠ 2) (hN : zN T b = 9) : wfT so n (pbT T k b) := by
  obtain ⟨h1, h2, h3, h4, h5, hk, hb0⟩ := h
  have hbk : b ≠ k := fun z => hs2 (by rw [← z]; exact hs)
  refine ⟨fun c' i hc' hi => ?_, fun j hj hbj => ?_, fun j hj hbj => ?_, fun b' hb' hne => ?_, fun j hj => ?_⟩
  · have g := h1 c' i hc' hi
    refine ⟨g.1, ?_, g.2.2.2⟩
    show updN (zB T) k b (zA T c' i) = 9
    rw [updN_n g.2.1]; exact g.2.2.1
  · have hbj : updN (zB T) k b j = 9 := hbj
    by_cases e : j = k
    · subst e; rw [updN_s] at hbj; omega
    · rw [updN_n e] at hbj; exact h2 j hj e hbj
  · have hbj : updN (zB T) k b j ≠ 9 := hbj
    show updN (zB T) k b j < n ∧ updN (zB T) k b (updN (zB T) k b j) = 9 ∧ so (updN (zB T) k b j) = 2 ∧ so j ≠ 2 ∧ updN (zN T) b k (updN (zB T) k b j) = j
    by_cases e : j = k
    · subst e
      rw [updN_s, updN_n hbk, updN_s]
      exact ⟨hb, hbb, hs, hs2, rfl⟩
    · rw [updN_n e] at hbj ⊢
      have g := h3 j hj e hbj
      have e1 : zB T j ≠ k := fun z => hs2 (by rw [← z]; exact g.2.2.1)
      have e2 : zB T j ≠ b := fun z => by have := g.2.2.2.2; rw [z, hN] at this; omega
      rw [updN_n e1, updN_n e2]
      exact g
  · have hne : updN (zN T) b k b' ≠ 9 := hne
    show updN (zN T) b k b' < n ∧ updN (zB T) k b (updN (zN T) b k b') = b'
    by_cases e : b' = b
    · subst e; rw [updN_s, updN_s]; exact ⟨hk, rfl⟩
    · rw [updN_n e] at hne ⊢
      have g := h4 b' hb' hne
      rw [updN_n g.2.1]
      exact ⟨g.1, g.2.2⟩
  · have g := h5 j hj
    refine ⟨?_, ?_⟩
    · show updN (zB T) k b j = 9
      rw [updN_n (by omega)]; exact g.1
    · show updN (zN T) b k j = 9
      rw [updN_n (by omega)]; exact g.2
theorem fr_clear (hf : frT T k) (e : zB T k = 9) : zI T k + 1 = zS T (zC T k) := by
  unfold frT at hf
  rw [if_pos e] at hf
  exact hf.2
theorem wf_go {to : Nat} (h : wfT so n T) (hn : n ≤ 6) (hk : k < n) (hto : to < 14) (hg : cgT so n T k to) : wfT so n (goT T k to) := by
  have h1 := wf_up h hn hk (fr_clear hg.1)
  unfold goT
  by_cases e : to < 8
  · rw [if_pos e]; exact wf_pc h1 e
  · rw [if_neg e]
    have g := hg.2 (by omega)
    refine wf_pb h1 hn g.1 ?_ g.2.1 g.2.2.1 ?_
    · unfold upT
      by_cases e2 : zB T k = 9
      · rw [if_pos e2]; exact g.2.2.2.1.1
      · rw [if_neg e2]
        show updN (zB T) k 9 (to - 8) = 9
        by_cases e3 : to - 8 = k
        · rw [e3]; exact updN_s
        · rw [updN_n e3]; exact g.2.2.2.1.1
    · unfold upT
      by_cases e2 : zB T k = 9
      · rw [if_pos e2]; exact g.2.2.2.2
      · rw [if_neg e2]
        show updN (zN T) (zB T k) 9 (to - 8) = 9
        by_cases e3 : to - 8 = zB T k
        · rw [e3]; exact updN_s
        · rw [updN_n e3]; exact g.2.2.2.2
end TW
