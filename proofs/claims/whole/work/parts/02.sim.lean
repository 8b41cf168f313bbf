/-! the small machine: values, memory, one step as a transformer of what must hold behind it -/
abbrev sv : Type := Int32 ⊕ (Int64 ⊕ (Nat × Nat))
abbrev sI (x : Int32) : sv := Sum.inl x
abbrev sL (x : Int64) : sv := Sum.inr (Sum.inl x)
abbrev sR (t i : Nat) : sv := Sum.inr (Sum.inr (t, i))
abbrev sM : Type := (Nat → Nat → Nat → Int32) × (Nat → Nat → Int64)
def m_i (μ : sM) (t i k : Nat) (x : Int32) : sM := (fun t' i' k' => if t' = t ∧ i' = i ∧ k' = k then x else μ.1 t' i' k', μ.2)
def m_l (μ : sM) (t k : Nat) (x : Int64) : sM := (μ.1, fun t' k' => if t' = t ∧ k' = k then x else μ.2 t' k')
/-- a stretch of an array comes to another -/
def m_c (μ : sM) (t i sp t' i' dp n : Nat) : sM := (fun a b k => if a = t' ∧ b = i' then va_cpy (μ.1 t i) (μ.1 t' i') sp dp n k else μ.1 a b k, μ.2)
abbrev sQ : Type := Int32 → Int64 → Nat × Nat → sM → Prop
abbrev sC : Type := Nat → List sv → sM → sQ → Prop
abbrev sO : Type := List (Option sv)
abbrev sP : Type := Nat → sO → List sv → sM → Prop
abbrev sE : Type := Instr × Nat × Nat × Int32 × Int64
abbrev sK : Type := Nat → sE
def l_at : sO → Nat → Option sv
  | [], _ => none
  | a :: _, 0 => a
  | _ :: l, n + 1 => l_at l n
def l_put : sO → Nat → Option sv → (sO → Prop) → Prop
  | [], 0, v, k => k [v]
  | [], n + 1, v, k => l_put [] n v (fun l => k (none :: l))
  | _ :: l, 0, v, k => k (v :: l)
  | a :: l, n + 1, v, k => l_put l n v (fun l' => k (a :: l'))
def l_kill (ls : sO) (i : Nat) (k : sO → Prop) : Prop := match i with
  | 0 => k ls
  | j + 1 => match l_at ls j with
    | some (.inr (.inl _)) => l_put ls j none k
    | _ => k ls
def l_arg : List sv → sO
  | [] => []
  | v :: r => match v with
    | .inr (.inl x) => some (sL x) :: none :: l_arg r
    | w => some w :: l_arg r
def nth {α : Type} (d : α) : List α → Nat → α
  | [], _ => d
  | a :: _, 0 => a
  | _ :: l, n + 1 => nth d l n
def popK : Nat → List sv → List sv → (List sv → List sv → Prop) → Prop
  | 0, st, acc, k => k acc st
  | n + 1, st, acc, k => match st with
    | [] => False
    | v :: r => popK n r (v :: acc) k
def pI (st : List sv) (f : Int32 → List sv → Prop) : Prop := match st with
  | .inl a :: r => f a r
  | _ => False
def pII (st : List sv) (f : Int32 → Int32 → List sv → Prop) : Prop := match st with
  | .inl b :: .inl a :: r => f a b r
  | _ => False
def pL (st : List sv) (f : Int64 → List sv → Prop) : Prop := match st with
  | .inr (.inl a) :: r => f a r
  | _ => False
def pLL (st : List sv) (f : Int64 → Int64 → List sv → Prop) : Prop := match st with
  | .inr (.inl b) :: .inr (.inl a) :: r => f a b r
  | _ => False
def pLI (st : List sv) (f : Int64 → Int32 → List sv → Prop) : Prop := match st with
  | .inl b :: .inr (.inl a) :: r => f a b r
  | _ => False
def pR (st : List sv) (f : Nat → Nat → List sv → Prop) : Prop := match st with
  | .inr (.inr (t, i)) :: r => f t i r
  | _ => False
def pRI (st : List sv) (f : Nat → Nat → Int32 → List sv → Prop) : Prop := match st with
  | .inl k :: .inr (.inr (t, i)) :: r => f t i k r
  | _ => False
def pRII (st : List sv) (f : Nat → Nat → Int32 → Int32 → List sv → Prop) : Prop := match st with
  | .inl x :: .inl k :: .inr (.inr (t, i)) :: r => f t i k x r
  | _ => False
def pRIL (st : List sv) (f : Nat → Nat → Int32 → Int64 → List sv → Prop) : Prop := match st with
  | .inr (.inl x) :: .inl k :: .inr (.inr (t, i)) :: r => f t i k x r
  | _ => False
/-- arraycopy's five -/
def pCP (st : List sv) (f : Nat → Nat → Int32 → Nat → Nat → Int32 → Int32 → List sv → Prop) : Prop := match st with
  | .inl n :: .inl dp :: .inr (.inr (t', i')) :: .inl sp :: .inr (.inr (t, i)) :: r => f t i sp t' i' dp n r
  | _ => False
/-- a switch over the numbers from 'lo' on -/
def swP (x : Int32) (K : Nat → Prop) (dflt : Nat) : Int → List Int → Prop
  | _, [] => K dflt
  | lo, t :: ts => (x = Int32.ofInt lo → K t.toNat) ∧ (¬ x = Int32.ofInt lo → swP x K dflt (lo + 1) ts)
def cnP (c : Jvm.ClassFile.Cond) (x y : Int32) (A B : Prop) : Prop := match c with
  | .eq => (x = y → A) ∧ (¬ x = y → B)
  | .ne => (¬ x = y → A) ∧ (x = y → B)
  | .lt => (x < y → A) ∧ (¬ x < y → B)
  | .ge => (y ≤ x → A) ∧ (¬ y ≤ x → B)
  | .gt => (y < x → A) ∧ (¬ y < x → B)
  | .le => (x ≤ y → A) ∧ (¬ x ≤ y → B)
def ctS : List sv → Nat
  | [] => 0
  | v :: r => (match v with
    | .inr (.inl _) => 2
    | _ => 1) + ctS r
/-- no script among them -/
def noS : List sv → Bool
  | [] => true
  | v :: r => (match v with
    | .inr (.inr (t, _)) => !Nat.beq t 59
    | _ => true) && noS r
/-- the receiver is of the class that is called -/
def rcv : Nat → List sv → Bool
  | 0, _ => true
  | n + 1, as => match as with
    | .inr (.inr (t, _)) :: _ => Nat.beq t n
    | _ => false
def shp : List (List (Option (Nat × Option Nat))) := [
  [some (1, some 0), some (5, some 0), some (8, some 0), some (13, some 0), some (14, some 0), some (16, some 0), some (20, some 0), some (28, some 0), some (33, some 0), some (35, some 0), some (39, some 0), none],
  [some (2, some 0), some (3, some 0), some (4, some 0)],
  [],
  [],
  [],
  [some (6, some 0), some (7, some 0), none],
  [],
  [],
  [some (5, some 0), some (9, none), some (10, none), some (11, none), some (12, none)],
  [],
  [],
  [],
  [],
  [some (5, some 0)],
  [some (5, some 0), some (13, some 0), some (8, some 1), some (15, some 0), none, none],
  [],
  [some (13, some 0), some (17, some 0), some (8, some 2), some (18, some 0), some (19, some 0), none, none],
  [],
  [],
  [],
  [some (16, some 0), some (21, some 0), some (22, some 0), some (23, some 0), some (24, some 0), some (25, some 0), some (26, some 0), some (27, some 0), none, none],
  [],
  [],
  [],
  [],
  [],
  [],
  [],
  [some (5, some 0), some (29, some 0), some (30, some 0), some (31, some 0), some (32, some 0), none, none],
  [],
  [],
  [],
  [],
  [some (28, some 0), some (34, some 0), none, none, none, none, none, none],
  [],
  [some (36, some 0), some (37, some 0), some (38, some 0), none, none],
  [],
  [],
  [],
  [some (5, some 0), some (8, some 0), some (40, some 0), none],
  [],
  [none, none, some (42, some 0), none, some (43, some 0), some (44, some 0), none, some (45, some 0), none, some (46, some 0), some (47, some 0), some (48, some 0), some (49, some 0), some (50, some 0), some (51, some 0), some (52, some 0), some (53, some 0), none, some (54, some 0), none, some (55, some 0), none, none, none, none, none, none, none, none, none, some (56, some 0), some (57, some 0), some (58, some 0), none],
  [],
  [],
  [],
  [],
  [],
  [],
  [],
  [],
  [],
  [],
  [],
  [],
  [],
  [],
  [],
  [],
  []]
def ars : List (Nat × Nat) := [(9, 0), (9, 0), (0, 8), (0, 8), (0, 320), (9, 0), (0, 6), (0, 6), (9, 0), (0, 6), (0, 6), (0, 6), (0, 8), (9, 0), (9, 0), (0, 2), (9, 0), (4, 8), (3, 8), (3, 768), (9, 0), (0, 8), (0, 8), (0, 8), (0, 8), (2, 8), (0, 96), (3, 96), (9, 0), (0, 16), (0, 16), (0, 16), (0, 16), (9, 0), (1, 300), (9, 0), (0, 12), (0, 12), (0, 144), (9, 0), (0, 16), (9, 0), (0, 6696), (0, 6), (0, 6), (0, 2), (0, 8), (0, 8), (2, 8), (0, 8), (2, 8), (0, 8), (0, 8), (0, 320), (0, 48), (0, 300), (2, 144), (2, 144), (0, 16), (5, 0)]
def strs : List (List Int32) := [[109, 111, 115, 116], [110, 101, 118, 101, 114], [99, 117, 112], [99, 108, 111, 116, 104], [98, 111, 120], [108, 105, 100], [97, 116], [111, 110], [105, 110], [98, 101, 115, 105, 100, 101]]
/-- one instruction -/
def stepO (op : Instr) (nx a : Nat) (c0 : Int32) (c1 : Int64) (C : sC) (Q : sQ) (K : sP) (ls : sO) (st : List sv) (μ : sM) : Prop :=
  match op with
  | .iconst _ => K nx ls (sI c0 :: st) μ
  | .lconst _ => K nx ls (sL c1 :: st) μ
  | .ldc _ => K nx ls (sR a 0 :: st) μ
  | .iload _ => match l_at ls a with
    | some (.inl x) => K nx ls (sI x :: st) μ
    | _ => False
  | .lload _ => match l_at ls a with
    | some (.inr (.inl x)) => K nx ls (sL x :: st) μ
    | _ => False
  | .aload _ => match l_at ls a with
    | some (.inr (.inr (t, j))) => K nx ls (sR t j :: st) μ
    | _ => False
  | .istore _ => pI st fun x r => l_kill ls a fun l => l_put l a (some (sI x)) fun l => K nx l r μ
  | .astore _ => pR st fun t j r => l_kill ls a fun l => l_put l a (some (sR t j)) fun l => K nx l r μ
  | .lstore _ => pL st fun x r => l_kill ls a fun l => l_put l a (some (sL x)) fun l => l_put l (a + 1) none fun l => K nx l r μ
  | .iinc _ _ => match l_at ls a with
    | some (.inl x) => l_kill ls a fun l => l_put l a (some (sI (x + c0))) fun l => K nx l st μ
    | _ => False
  | .iadd => pII st fun x y r => K nx ls (sI (x + y) :: r) μ
  | .isub => pII st fun x y r => K nx ls (sI (x - y) :: r) μ
  | .imul => pII st fun x y r => K nx ls (sI (x * y) :: r) μ
  | .iand => pII st fun x y r => K nx ls (sI (x &&& y) :: r) μ
  | .ior => pII st fun x y r => K nx ls (sI (x ||| y) :: r) μ
  | .ishl => pII st fun x y r => K nx ls (sI (x <<< (y &&& 31)) :: r) μ
  | .ishr => pII st fun x y r => K nx ls (sI (x >>> (y &&& 31)) :: r) μ
  | .iushr => pII st fun x y r => K nx ls (sI ((x.toUInt32 >>> (y.toUInt32 &&& Int32.toUInt32 31)).toInt32) :: r) μ
  | .idiv => pII st fun x y r => ¬ y = 0 ∧ K nx ls (sI (x / y) :: r) μ
  | .irem => pII st fun x y r => ¬ y = 0 ∧ K nx ls (sI (x - x / y * y) :: r) μ
  | .ineg => pI st fun x r => K nx ls (sI (-x) :: r) μ
  | .ladd => pLL st fun x y r => K nx ls (sL (x + y) :: r) μ
  | .land => pLL st fun x y r => K nx ls (sL (x &&& y) :: r) μ
  | .lor => pLL st fun x y r => K nx ls (sL (x ||| y) :: r) μ
  | .lshl => pLI st fun x y r => K nx ls (sL (x <<< (y.toInt64 &&& 63)) :: r) μ
  | .lshr => pLI st fun x y r => K nx ls (sL (x >>> (y.toInt64 &&& 63)) :: r) μ
  | .lcmp => pLL st fun x y r => K nx ls (sI (lg_cmp x y) :: r) μ
  | .i2l => pI st fun x r => K nx ls (sL x.toInt64 :: r) μ
  | .l2i => pL st fun x r => K nx ls (sI x.toInt32 :: r) μ
  | .i2b => pI st fun x r => K nx ls (sI x.toInt8.toInt32 :: r) μ
  | .i2s => pI st fun x r => K nx ls (sI x.toInt16.toInt32 :: r) μ
  | .dup => match st with
    | .inl x :: r => K nx ls (sI x :: sI x :: r) μ
    | .inr (.inr (t, i)) :: r => K nx ls (sR t i :: sR t i :: r) μ
    | _ => False
  | .dup2 => match st with
    | .inl b :: .inr (.inr (t, i)) :: r => K nx ls (sI b :: sR t i :: sI b :: sR t i :: r) μ
    | _ => False
  | .pop => match st with
    | .inl _ :: r => K nx ls r μ
    | .inr (.inr _) :: r => K nx ls r μ
    | _ => False
  | .if_icmp c _ => pII st fun x y r => cnP c x y (K a ls r μ) (K nx ls r μ)
  | .ifCond c _ => pI st fun x r => cnP c x 0 (K a ls r μ) (K nx ls r μ)
  | .goto _ => K a ls st μ
  | .tableswitch _ lo _ offs => pI st fun x r => swP x (fun t => K t ls r μ) a lo offs.toList
  | .getfield g => pR st fun t i r => cond (Nat.beq t g && Nat.blt a (nth [] shp t).length) (match nth none (nth [] shp t) a with
      | none => K nx ls (sI (μ.1 t i a) :: r) μ
      | some (t', none) => K nx ls (sR t' i :: r) μ
      | some (t', some j) => K nx ls (sR t' j :: r) μ) False
  | .putfield g => pRI st fun t i x r => cond (Nat.beq t g && Nat.blt a (nth [] shp t).length) (match nth none (nth [] shp t) a with
      | none => K nx ls r (m_i μ t i a x)
      | _ => False) False
  | .iaload => pRI st fun t i k r => match nth (9, 0) ars t with
    | (0, n) => vp_in k n ∧ K nx ls (sI (μ.1 t i k.toNatClampNeg) :: r) μ
    | (5, _) => vp_in k (μ.1 59 1 0).toNatClampNeg ∧ K nx ls (sI (μ.1 59 0 k.toNatClampNeg) :: r) μ
    | _ => False
  | .baload => pRI st fun t i k r => match nth (9, 0) ars t with
    | (1, n) => vp_in k n ∧ K nx ls (sI (μ.1 t i k.toNatClampNeg) :: r) μ
    | (2, n) => vp_in k n ∧ K nx ls (sI (μ.1 t i k.toNatClampNeg) :: r) μ
    | _ => False
  | .laload => pRI st fun t _ k r => match nth (9, 0) ars t with
    | (3, n) => vp_in k n ∧ K nx ls (sL (μ.2 t k.toNatClampNeg) :: r) μ
    | _ => False
  | .aaload => pRI st fun t _ k r => match nth (9, 0) ars t with
    | (4, n) => vp_in k n ∧ K nx ls (sR 8 (3 + k.toNatClampNeg) :: r) μ
    | _ => False
  | .iastore => pRII st fun t i k x r => match nth (9, 0) ars t with
    | (0, n) => vp_in k n ∧ K nx ls r (m_i μ t i k.toNatClampNeg x)
    | _ => False
  | .bastore => pRII st fun t i k x r => match nth (9, 0) ars t with
    | (1, n) => vp_in k n ∧ K nx ls r (m_i μ t i k.toNatClampNeg (vp_nar .byte x))
    | (2, n) => vp_in k n ∧ K nx ls r (m_i μ t i k.toNatClampNeg (vp_nar .boolean x))
    | _ => False
  | .lastore => pRIL st fun t _ k x r => match nth (9, 0) ars t with
    | (3, n) => vp_in k n ∧ K nx ls r (m_l μ t k.toNatClampNeg x)
    | _ => False
  | .arraylength => pR st fun t _ r => match nth (9, 0) ars t with
    | (0, n) => K nx ls (sI (Int32.ofNat n) :: r) μ
    | (5, _) => K nx ls (sI (μ.1 59 1 0) :: r) μ
    | _ => False
  | .invokeinterface na rk => popK (na % 16) st [] fun as r => cond (Nat.ble (ctS r) 8 && noS as && rcv (na / 16) as)
      (match rk with
      | 0 => C a as μ (fun _ _ _ μ' => K nx ls r μ')
      | 1 => C a as μ (fun v _ _ μ' => K nx ls (sI v :: r) μ')
      | 2 => C a as μ (fun _ w _ μ' => K nx ls (sL w :: r) μ')
      | _ => C a as μ (fun _ _ q μ' => K nx ls (sR q.1 q.2 :: r) μ')) False
  | .invokedynamic _ => match a with
    | 1 => pCP st fun t i sp t' i' dp n r => cond (Nat.ble (ctS r) 8) (match nth (9, 0) ars t, nth (9, 0) ars t' with
      | (0, n0), (0, n1) => (¬ sp < 0 ∧ ¬ dp < 0 ∧ ¬ n < 0 ∧ sp.toNatClampNeg + n.toNatClampNeg ≤ n0 ∧ dp.toNatClampNeg + n.toNatClampNeg ≤ n1) ∧ K nx ls r (m_c μ t i sp.toNatClampNeg t' i' dp.toNatClampNeg n.toNatClampNeg)
      | _, _ => False) False
    | 2 => pR st fun t _ r => cond (Nat.ble (ctS r) 8 && Nat.blt 59 t && Nat.blt t 70) (K nx ls (sI (Int32.ofNat (nth [] strs (t - 60)).length) :: r) μ) False
    | 3 => pRI st fun t _ k r => cond (Nat.ble (ctS r) 8 && Nat.blt 59 t && Nat.blt t 70) (vp_in k (nth [] strs (t - 60)).length ∧ K nx ls (sI (nth 0 (nth [] strs (t - 60)) k.toNatClampNeg) :: r) μ) False
    | 4 => pI st fun x r => cond (Nat.ble (ctS r) 8) (K nx ls (sI (if 0 ≤ x then x else 0 - x) :: r) μ) False
    | 5 => pII st fun x y r => cond (Nat.ble (ctS r) 8) (K nx ls (sI (if y < x then y else x) :: r) μ) False
    | 6 => pII st fun x y r => cond (Nat.ble (ctS r) 8) (K nx ls (sI (if x < y then y else x) :: r) μ) False
    | _ => False
  | .ireturn => match st with
    | [.inl x] => Q x 0 (0, 0) μ
    | _ => False
  | .freturn => match st with
    | [.inl x] => (x = 0 ∨ x = 1) ∧ Q x 0 (0, 0) μ
    | _ => False
  | .lreturn => match st with
    | [.inr (.inl x)] => Q 0 x (0, 0) μ
    | _ => False
  | .areturn => match st with
    | [.inr (.inr (t, i))] => cond (Nat.blt t 59) (Q 0 0 (t, i) μ) False
    | _ => False
  | .return_ => match st with
    | [] => Q 0 0 (0, 0) μ
    | _ => False
  | _ => False
def stepW (cd : sK) (C : sC) (Q : sQ) (K : sP) : sP := fun pc ls st μ => match cd pc with
  | (op, nx, a, c0, c1) => stepO op nx a c0 c1 C Q K ls st μ
noncomputable def RunN (cd : sK) (C : sC) (Q : sQ) (n : Nat) : sP := Nat.rec (motive := fun _ => sP) (fun _ _ _ _ => False) (fun _ ih => stepW cd C Q ih) n
/-! what a step needs may be weakened; the least set that is closed under steps -/
theorem l_put_mono {k k' : sO → Prop} (h : ∀ l, k l → k' l) : ∀ (ls : sO) (i : Nat) (v : Option sv), l_put ls i v k → l_put ls i v k' := by
  intro ls
  induction ls generalizing k k' with
  | nil =>
    intro i v
    induction i generalizing k k' with
    | zero => exact h _
    | succ n ih => exact ih (fun l hl => h _ hl)
  | cons a l ih =>
    intro i v
    cases i with
    | zero => exact h _
    | succ n => exact ih (fun l hl => h _ hl) n v
theorem l_kill_mono {k k' : sO → Prop} (h : ∀ l, k l → k' l) (ls : sO) (i : Nat) : l_kill ls i k → l_kill ls i k' := by
  cases i with
  | zero => exact h _
  | succ j =>
    unfold l_kill
    dsimp only
    split
    · exact l_put_mono h _ _ _
    · exact h _
theorem popK_mono {k k' : List sv → List sv → Prop} (h : ∀ a r, k a r → k' a r) : ∀ (n : Nat) (st acc : List sv), popK n st acc k → popK n st acc k' := by
  intro n
  induction n with
  | zero => intro st acc; exact h _ _
  | succ n ih =>
    intro st acc
    cases st with
    | nil => exact id
    | cons v r => exact ih r (v :: acc)
theorem swP_mono {x : Int32} {K K' : Nat → Prop} (h : ∀ t, K t → K' t) (d : Nat) : ∀ (ts : List Int) (lo : Int), swP x K d lo ts → swP x K' d lo ts := by
  intro ts
  induction ts with
  | nil => intro lo; exact h _
  | cons t ts ih => intro lo hh; exact ⟨fun e => h _ (hh.1 e), fun e => ih _ (hh.2 e)⟩
theorem cnP_mono {c : Jvm.ClassFile.Cond} {x y : Int32} {A A' B B' : Prop} (ha : A → A') (hb : B → B') : cnP c x y A B → cnP c x y A' B' := by
  cases c <;> exact fun h => ⟨fun e => ha (h.1 e), fun e => hb (h.2 e)⟩
theorem pI_mono {st : List sv} {f g : Int32 → List sv → Prop} (h : ∀ a r, f a r → g a r) : pI st f → pI st g := by
  unfold pI; split
  · exact h _ _
  · exact id
theorem pII_mono {st : List sv} {f g : Int32 → Int32 → List sv → Prop} (h : ∀ a b r, f a b r → g a b r) : pII st f → pII st g := by
  unfold pII; split
  · exact h _ _ _
  · exact id
theorem pL_mono {st : List sv} {f g : Int64 → List sv → Prop} (h : ∀ a r, f a r → g a r) : pL st f → pL st g := by
  unfold pL; split
  · exact h _ _
  · exact id
theorem pLL_mono {st : List sv} {f g : Int64 → Int64 → List sv → Prop} (h : ∀ a b r, f a b r → g a b r) : pLL st f → pLL st g := by
  unfold pLL; split
  · exact h _ _ _
  · exact id
theorem pLI_mono {st : List sv} {f g : Int64 → Int32 → List sv → Prop} (h : ∀ a b r, f a b r → g a b r) : pLI st f → pLI st g := by
  unfold pLI; split
  · exact h _ _ _
  · exact id
theorem pR_mono {st : List sv} {f g : Nat → Nat → List sv → Prop} (h : ∀ a b r, f a b r → g a b r) : pR st f → pR st g := by
  unfold pR; split
  · exact h _ _ _
  · exact id
theorem pRI_mono {st : List sv} {f g : Nat → Nat → Int32 → List sv → Prop} (h : ∀ a b c r, f a b c r → g a b c r) : pRI st f → pRI st g := by
  unfold pRI; split
  · exact h _ _ _ _
  · exact id
theorem pRII_mono {st : List sv} {f g : Nat → Nat → Int32 → Int32 → List sv → Prop} (h : ∀ a b c d r, f a b c d r → g a b c d r) : pRII st f → pRII st g := by
  unfold pRII; split
  · exact h _ _ _ _ _
  · exact id
theorem pRIL_mono {st : List sv} {f g : Nat → Nat → Int32 → Int64 → List sv → Prop} (h : ∀ a b c d r, f a b c d r → g a b c d r) : pRIL st f → pRIL st g := by
  unfold pRIL; split
  · exact h _ _ _ _ _
  · exact id
theorem pCP_mono {st : List sv} {f g : Nat → Nat → Int32 → Nat → Nat → Int32 → Int32 → List sv → Prop} (h : ∀ a b c d e i j r, f a b c d e i j r → g a b c d e i j r) : pCP st f → pCP st g := by
  unfold pCP; split
  · exact h _ _ _ _ _ _ _ _
  · exact id
theorem cond_mono {b : Bool} {A A' : Prop} (h : A → A') : (bif b then A else False) → (bif b then A' else False) := by
  cases b
  · exact id
  · exact h
def monC (C C' : sC) : Prop := ∀ (y : Nat) (as : List sv) (μ : sM) (P P' : sQ), (∀ v w q m, P v w q m → P' v w q m) → C y as μ P → C' y as μ P'
set_option maxHeartbeats 4000000 in
theorem stepO_mono {C C' : sC} (hC : monC C C') {Q Q' : sQ} (hQ : ∀ v w q m, Q v w q m → Q' v w q m) {K K' : sP} (hK : ∀ pc ls st μ, K pc ls st μ → K' pc ls st μ) (op : Instr) (nx a : Nat) (c0 : Int32) (c1 : Int64) (ls : sO) (st : List sv) (μ : sM) :
    stepO op nx a c0 c1 C Q K ls st μ → stepO op nx a c0 c1 C' Q' K' ls st μ := by
  cases op <;> simp only [stepO] <;> try exact id
  all_goals first
    | exact hK _ _ _ _
    | exact pI_mono fun _ _ => hK _ _ _ _
    | exact pII_mono fun _ _ _ => hK _ _ _ _
    | exact pL_mono fun _ _ => hK _ _ _ _
    | exact pLL_mono fun _ _ _ => hK _ _ _ _
    | exact pLI_mono fun _ _ _ => hK _ _ _ _
    | exact pII_mono fun _ _ _ h => ⟨h.1, hK _ _ _ _ h.2⟩
    | exact pII_mono fun _ _ _ => cnP_mono (hK _ _ _ _) (hK _ _ _ _)
    | exact pI_mono fun _ _ => cnP_mono (hK _ _ _ _) (hK _ _ _ _)
    | exact pI_mono fun _ _ => swP_mono (fun _ => hK _ _ _ _) _ _ _
    | exact pI_mono fun _ _ => l_kill_mono (fun _ => l_put_mono (fun _ => hK _ _ _ _) _ _ _) _ _
    | exact pR_mono fun _ _ _ => l_kill_mono (fun _ => l_put_mono (fun _ => hK _ _ _ _) _ _ _) _ _
    | exact pL_mono fun _ _ => l_kill_mono (fun _ => l_put_mono (fun _ => l_put_mono (fun _ => hK _ _ _ _) _ _ _) _ _ _) _ _
    | (split <;> first | exact id | exact hK _ _ _ _ | exact hQ _ _ _ _ | exact l_kill_mono (fun _ => l_put_mono (fun _ => hK _ _ _ _) _ _ _) _ _ | exact fun h => ⟨h.1, hQ _ _ _ _ h.2⟩ | exact cond_mono (hQ _ _ _ _))
    | (refine pR_mono fun _ _ _ => cond_mono ?_; split <;> exact hK _ _ _ _)
    | (refine pRI_mono fun _ _ _ _ => cond_mono ?_; split <;> first | exact id | exact hK _ _ _ _)
    | (refine pRI_mono fun _ _ _ _ => ?_; split <;> first | exact id | exact fun h => ⟨h.1, hK _ _ _ _ h.2⟩)
    | (refine pRII_mono fun _ _ _ _ _ => ?_; split <;> first | exact id | exact fun h => ⟨h.1, hK _ _ _ _ h.2⟩)
    | (refine pRIL_mono fun _ _ _ _ _ => ?_; split <;> first | exact id | exact fun h => ⟨h.1, hK _ _ _ _ h.2⟩)
    | (refine pR_mono fun _ _ _ => ?_; split <;> first | exact id | exact hK _ _ _ _)
    | (refine popK_mono (fun _ _ => cond_mono ?_) _ _ _; split <;> exact hC _ _ _ _ _ fun _ _ _ _ => hK _ _ _ _)
    | (split
       · refine pCP_mono fun _ _ _ _ _ _ _ _ => cond_mono ?_
         split
         · exact fun h => ⟨h.1, hK _ _ _ _ h.2⟩
         · exact id
       · exact pR_mono fun _ _ _ => cond_mono (hK _ _ _ _)
       · exact pRI_mono fun _ _ _ _ => cond_mono fun h => ⟨h.1, hK _ _ _ _ h.2⟩
       · exact pI_mono fun _ _ => cond_mono (hK _ _ _ _)
       · exact pII_mono fun _ _ _ => cond_mono (hK _ _ _ _)
       · exact pII_mono fun _ _ _ => cond_mono (hK _ _ _ _)
       · exact id)
theorem stepW_mono {cd : sK} {C C' : sC} (hC : monC C C') {Q Q' : sQ} (hQ : ∀ v w q m, Q v w q m → Q' v w q m) {K K' : sP} (hK : ∀ pc ls st μ, K pc ls st μ → K' pc ls st μ) (pc : Nat) (ls : sO) (st : List sv) (μ : sM) : stepW cd C Q K pc ls st μ → stepW cd C' Q' K' pc ls st μ := by
  unfold stepW
  split
  exact stepO_mono hC hQ hK _ _ _ _ _ _ _ _
/-- comes to an end with Q -/
def Run (cd : sK) (C : sC) (Q : sQ) : sP := fun pc ls st μ => ∀ P : sP, (∀ pc ls st μ, stepW cd C Q P pc ls st μ → P pc ls st μ) → P pc ls st μ
theorem Run.fold {cd : sK} {C : sC} (hC : monC C C) {Q : sQ} {pc : Nat} {ls : sO} {st : List sv} {μ : sM} (h : stepW cd C Q (Run cd C Q) pc ls st μ) : Run cd C Q pc ls st μ :=
  fun P hP => hP _ _ _ _ (stepW_mono hC (fun _ _ _ _ h => h) (fun _ _ _ _ h => h P hP) _ _ _ _ h)
theorem Run.unfold {cd : sK} {C : sC} (hC : monC C C) {Q : sQ} {pc : Nat} {ls : sO} {st : List sv} {μ : sM} (h : Run cd C Q pc ls st μ) : stepW cd C Q (Run cd C Q) pc ls st μ :=
  h (stepW cd C Q (Run cd C Q)) (fun _ _ _ _ h => stepW_mono hC (fun _ _ _ _ h => h) (fun _ _ _ _ h => Run.fold hC h) _ _ _ _ h)
theorem Run.mono {cd : sK} {C C' : sC} (hC : monC C C') {Q Q' : sQ} (hQ : ∀ v w q m, Q v w q m → Q' v w q m) {pc : Nat} {ls : sO} {st : List sv} {μ : sM} (h : Run cd C Q pc ls st μ) : Run cd C' Q' pc ls st μ :=
  fun P hP => h P (fun _ _ _ _ h => hP _ _ _ _ (stepW_mono hC hQ (fun _ _ _ _ h => h) _ _ _ _ h))
/-- n steps, then Run -/
noncomputable def Seg (cd : sK) (C : sC) (Q : sQ) (n : Nat) : sP := Nat.rec (motive := fun _ => sP) (Run cd C Q) (fun _ ih => stepW cd C Q ih) n
theorem Seg.go {cd : sK} {C : sC} (hC : monC C C) {Q : sQ} : ∀ (n : Nat) {pc : Nat} {ls : sO} {st : List sv} {μ : sM}, Seg cd C Q n pc ls st μ → Run cd C Q pc ls st μ := by
  intro n
  induction n with
  | zero => intro pc ls st μ h; exact h
  | succ n ih => intro pc ls st μ h; exact Run.fold hC (stepW_mono hC (fun _ _ _ _ h => h) (fun _ _ _ _ h => ih h) _ _ _ _ h)
theorem Seg.stop {cd : sK} {C : sC} (hC : monC C C) {Q : sQ} : ∀ (n : Nat) {pc : Nat} {ls : sO} {st : List sv} {μ : sM}, Run cd C Q pc ls st μ → Seg cd C Q n pc ls st μ := by
  intro n
  induction n with
  | zero => intro pc ls st μ h; exact h
  | succ n ih => intro pc ls st μ h; exact stepW_mono hC (fun _ _ _ _ h => h) (fun _ _ _ _ h => ih h) _ _ _ _ (Run.unfold hC h)
