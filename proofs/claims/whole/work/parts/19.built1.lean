def gAt (L : List (List Nat)) (adK : Nat → Nat) (t i : Nat) : Nat := bif Nat.blt t 60 then nth 0 (nth [] L t) i else adK (t - 60)
theorem gAt_60 (L : List (List Nat)) (adK : Nat → Nat) (i : Nat) : gAt L adK (60 + i) 0 = adK i := by
  unfold gAt
  rw [show Nat.blt (60 + i) 60 = false from by
    cases h : Nat.blt (60 + i) 60 with
    | true => exact absurd (Nat.le_of_ble_eq_true h) (by omega)
    | false => rfl, Nat.add_sub_cancel_left]
  rfl
def scr (xs : Nat → Int32) (L : Nat) : Nat → Nat → Int32 := fun i k => bif Nat.beq i 0 then xs k else nI L
set_option maxHeartbeats 4000000 in
set_option maxRecDepth 100000 in
theorem made {D : va_G} {cy : Nat → ClassId} {b h0 hm : Nat} {adK adV : Nat → Nat} {X : Nat → Nat → Int32} {A : Nat → Prop} {H : Heap} {u u' : va_W} (h1 : pC_0 cy h0 u) (hq : pC_41 cy hm u') (hP : va_P D clL (u ++ u') H) (hD : va_D A (u ++ u')) :
    ∃ L : List (List Nat), nth 0 (nth [] L 0) 0 = h0 ∧ nth 0 (nth [] L 41) 0 = hm ∧ nth 0 (nth [] L 59) 0 = b ∧ va_P D clL (wsM (D, gAt L adK, cy, X, adV) (mu0 X)) H ∧ injS (D, gAt L adK, cy, X, adV) ∧ ∀ q, Aw (D, gAt L adK, cy, X, adV) q → A q := by
  obtain ⟨h1, h2, h3, h4, h5, h6, h7, h8, h9, h10, h11, u0, u1, u2, u3, u4, u5, u6, u7, u8, u9, u10, e0, e1, e2, e3, e4, e5, e6, e7, e8, e9, e10, rfl⟩ := h1
  have em := hq
  obtain ⟨a0, a1, a2, rfl⟩ := e0
  obtain ⟨b0, b1, rfl⟩ := e1
  obtain ⟨c0, c1, c2, c3, rfl⟩ := e2
  obtain rfl := e3
  obtain ⟨d0, g1, d0_0, d0_1, d0_2, d0_3, rfl⟩ := e4
  obtain ⟨f0, f1, f2, k0, k0_0, k0_1, k0_2, k0_3, k1, k1_0, k1_1, k1_2, k1_3, k2, k2_0, k2_1, k2_2, k2_3, k3, k3_0, k3_1, k3_2, k3_3, k4, k4_0, k4_1, k4_2, k4_3, k5, k5_0, k5_1, k5_2, k5_3, k6, k6_0, k6_1, k6_2, k6_3, k7, k7_0, k7_1, k7_2, k7_3, k8, k8_0, k8_1, k8_2, k8_3, rfl⟩ := e5
  obtain ⟨m0, m1, m2, m3, m4, m5, m6, rfl⟩ := e6
  obtain ⟨n0, n1, n2, n3, rfl⟩ := e7
  obtain ⟨r0, rfl⟩ := e8
  obtain ⟨t0, t1, t2, rfl⟩ := e9
  obtain ⟨v0, rfl⟩ := e10
  obtain ⟨z0, z1, z2, z3, z4, z5, z6, z7, z8, z9, z10, z11, z12, z13, z14, z15, z16, rfl⟩ := em
  refine ⟨[[h0], [h1], [a0], [a1], [a2], [h2], [b0], [b1], [h3, g1, k0, k1, k2, k3, k4, k5, k6, k7, k8], [c0, d0_0, k0_0, k1_0, k2_0, k3_0, k4_0, k5_0, k6_0, k7_0, k8_0], [c1, d0_1, k0_1, k1_1, k2_1, k3_1, k4_1, k5_1, k6_1, k7_1, k8_1], [c2, d0_2, k0_2, k1_2, k2_2, k3_2, k4_2, k5_2, k6_2, k7_2, k8_2], [c3, d0_3, k0_3, k1_3, k2_3, k3_3, k4_3, k5_3, k6_3, k7_3, k8_3], [h4], [h5], [d0], [h6], [f0], [f1], [f2], [h7], [m0], [m1], [m2], [m3], [m4], [m5], [m6], [h8], [n0], [n1], [n2], [n3], [h9], [r0], [h10], [t0], [t1], [t2], [h11], [v0], [hm], [z0], [z1], [z2], [z3], [z4], [z5], [z6], [z7], [z8], [z9], [z10], [z11], [z12], [z13], [z14], [z15], [z16], [b]], rfl, rfl, rfl, ?_⟩
  generalize hLL : [[h0], [h1], [a0], [a1], [a2], [h2], [b0], [b1], [h3, g1, k0, k1, k2, k3, k4, k5, k6, k7, k8], [c0, d0_0, k0_0, k1_0, k2_0, k3_0, k4_0, k5_0, k6_0, k7_0, k8_0], [c1, d0_1, k0_1, k1_1, k2_1, k3_1, k4_1, k5_1, k6_1, k7_1, k8_1], [c2, d0_2, k0_2, k1_2, k2_2, k3_2, k4_2, k5_2, k6_2, k7_2, k8_2], [c3, d0_3, k0_3, k1_3, k2_3, k3_3, k4_3, k5_3, k6_3, k7_3, k8_3], [h4], [h5], [d0], [h6], [f0], [f1], [f2], [h7], [m0], [m1], [m2], [m3], [m4], [m5], [m6], [h8], [n0], [n1], [n2], [n3], [h9], [r0], [h10], [t0], [t1], [t2], [h11], [v0], [hm], [z0], [z1], [z2], [z3], [z4], [z5], [z6], [z7], [z8], [z9], [z10], [z11], [z12], [z13], [z14], [z15], [z16], [b]] = LL
  have hw : ∀ k, k < 8 → (va_up (va_up (va_up (va_up (va_up (va_up (va_up (va_up (fun _ => none) 0 (some k1)) 1 (some k2)) 2 (some k3)) 3 (some k4)) 4 (some k5)) 5 (some k6)) 6 (some k7)) 7 (some k8)) k = some (gAt LL adK 8 (3 + k)) := by
    subst hLL
    intro k hk
    rcases (show k = 0 ∨ k = 1 ∨ k = 2 ∨ k = 3 ∨ k = 4 ∨ k = 5 ∨ k = 6 ∨ k = 7 by omega) with rfl | rfl | rfl | rfl | rfl | rfl | rfl | rfl <;> rfl
  refine wd_built (S := (D, gAt LL adK, cy, X, adV)) (μ := mu0 X) (f := (va_up (va_up (va_up (va_up (va_up (va_up (va_up (va_up (fun _ => none) 0 (some k1)) 1 (some k2)) 2 (some k3)) 3 (some k4)) 4 (some k5)) 5 (some k6)) 6 (some k7)) 7 (some k8))) hw ?_ ?_
  · subst hLL; exact hP
  · subst hLL; exact hD
