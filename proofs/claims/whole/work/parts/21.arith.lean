/-! numbers of the small machine as integers -/
theorem i_sub {x y : Int32} (h1 : -2147483648 ≤ x.toInt - y.toInt) (h2 : x.toInt - y.toInt < 2147483648) : (x - y).toInt = x.toInt - y.toInt := by
  rw [Int32.toInt_sub]; exact Int.bmod_eq_of_le (by omega) (by omega)
theorem i_add {x y : Int32} (h1 : -2147483648 ≤ x.toInt + y.toInt) (h2 : x.toInt + y.toInt < 2147483648) : (x + y).toInt = x.toInt + y.toInt := by
  rw [Int32.toInt_add]; exact Int.bmod_eq_of_le (by omega) (by omega)
theorem i_mul {x y : Int32} (h1 : -2147483648 ≤ x.toInt * y.toInt) (h2 : x.toInt * y.toInt < 2147483648) : (x * y).toInt = x.toInt * y.toInt := by
  rw [Int32.toInt_mul]; exact Int.bmod_eq_of_le (by omega) (by omega)
theorem i_rng (x : Int32) : -2147483648 ≤ x.toInt ∧ x.toInt < 2147483648 := ⟨Int32.le_toInt x, Int32.toInt_lt x⟩
/-! branches that are decided -/
theorem brT {P A B : Prop} (h : P) (k : A) : (P → A) ∧ (¬ P → B) := ⟨fun _ => k, fun n => absurd h n⟩
theorem brF {P A B : Prop} (h : ¬ P) (k : B) : (P → A) ∧ (¬ P → B) := ⟨fun n => absurd n h, fun _ => k⟩
theorem brnT {P A B : Prop} (h : P) (k : B) : (¬ P → A) ∧ (P → B) := ⟨fun n => absurd h n, fun _ => k⟩
theorem brnF {P A B : Prop} (h : ¬ P) (k : A) : (¬ P → A) ∧ (P → B) := ⟨fun _ => k, fun n => absurd n h⟩
theorem nI_mul (a b : Nat) : nI a * nI b = nI (a * b) := (Int32.ofNat_mul a b).symm
theorem nI_sub {a b : Nat} (h : b ≤ a) : nI a - nI b = nI (a - b) := by
  have e : nI (a - b) + nI b = nI a := by rw [nI_add, Nat.sub_add_cancel h]
  rw [← e]; exact Int32.add_sub_cancel _ _
theorem nI_62 (r c i : Nat) : 62 * nI r + 7 * nI c + 1 + nI i = nI (62 * r + 7 * c + 1 + i) := by
  show nI 62 * nI r + nI 7 * nI c + nI 1 + nI i = _
  simp only [nI_mul, nI_add]
theorem iNONE : nONE.toInt = -1000000 := by decide
