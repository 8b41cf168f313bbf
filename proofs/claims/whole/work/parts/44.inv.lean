/-! what holds of both memories between two calls -/
theorem mi_n {μ : sM} {t i k a j l : Nat} {x : Int32} (h : ¬ (a = t ∧ j = i ∧ l = k)) : (m_i μ t i k x).1 a j l = μ.1 a j l := if_neg h
def frm (F : Nat → Nat → Nat → Prop) (μ μ' : sM) : Prop := ∀ a i k, F a i k → μ'.1 a i k = μ.1 a i k
theorem frm.rf {F : Nat → Nat → Nat → Prop} {μ : sM} : frm F μ μ := fun _ _ _ _ => rfl
theorem frm.tr {F : Nat → Nat → Nat → Prop} {μ μ' μ'' : sM} (h : frm F μ μ') (h' : frm F μ' μ'') : frm F μ μ'' := fun a i k z => (h' a i k z).trans (h a i k z)
theorem frm.mi {F : Nat → Nat → Nat → Prop} {μ μ' : sM} {t i k : Nat} {x : Int32} (h : frm F μ μ') (hn : ¬ F t i k) : frm F μ (m_i μ' t i k x) := fun a j l z => by
  rw [mi_n (fun e => hn (by obtain ⟨rfl, rfl, rfl⟩ := e; exact z))]; exact h a j l z
theorem frm.agT {F : Nat → Nat → Nat → Prop} {μ μ' μ'' : sM} {t : Nat} (h : frm F μ μ') (g : agT t μ' μ'') (hn : ∀ a i k, F a i k → ¬ (9 ≤ a ∧ a ≤ 12 ∧ i = t)) : frm F μ μ'' := fun a i k z => (g.1 a i k (hn a i k z)).trans (h a i k z)
theorem frm.agR {F : Nat → Nat → Nat → Prop} {μ μ' μ'' : sM} {r : Nat} (h : frm F μ μ') (g : agR r μ' μ'') (hn : ∀ a i k, F a i k → ¬ (a = 42 ∧ 62 * r ≤ k ∧ k < 62 * r + 62)) : frm F μ μ'' := fun a i k z => (g.1 a i k (hn a i k z)).trans (h a i k z)
/-! the groups that have nothing to do with the tables -/
def SG (μ : sM) : Prop := ∃ la mn it, shW la mn ∧ shC μ la mn it ∧ shR μ la mn it
def fS (a _ _ : Nat) : Prop := (2 ≤ a ∧ a ≤ 4) ∨ (51 ≤ a ∧ a ≤ 53)
theorem shC.fr {μ μ' : sM} {la mn : Nat → Nat} {it : Nat → Int32} (h : shC μ la mn it) (e : frm fS μ μ') : shC μ' la mn it := by
  refine ⟨fun s hs => ?_, fun k hk => ?_⟩
  · rw [e 2 0 s (by unfold fS; omega), e 3 0 s (by unfold fS; omega)]; exact h.1 s hs
  · rw [e 4 0 k (by unfold fS; omega)]; exact h.2 k hk
theorem shR.fr {μ μ' : sM} {la mn : Nat → Nat} {it : Nat → Int32} (h : shR μ la mn it) (e : frm fS μ μ') : shR μ' la mn it := by
  refine ⟨fun s hs => ?_, fun k hk => ?_⟩
  · rw [e 51 0 s (by unfold fS; omega), e 52 0 s (by unfold fS; omega)]; exact h.1 s hs
  · rw [e 53 0 k (by unfold fS; omega)]; exact h.2 k hk
theorem SG.fr {μ μ' : sM} (h : SG μ) (e : frm fS μ μ') : SG μ' := by
  obtain ⟨la, mn, it, h1, h2, h3⟩ := h
  exact ⟨la, mn, it, h1, h2.fr e, h3.fr e⟩
/-- what the arms reach -/
def rcG (μ : sM) (rc : Nat → Nat) : Prop := ∀ a, a < 2 → rc a < 256 ∧ μ.1 15 0 a = nI (rc a) ∧ μ.1 45 0 a = nI (rc a)
def fR (a _ _ : Nat) : Prop := a = 15 ∨ a = 45
theorem rcG.fr {μ μ' : sM} {rc : Nat → Nat} (h : rcG μ rc) (e : frm fR μ μ') : rcG μ' rc := fun a ha => by
  rw [e 15 0 a (Or.inl rfl), e 45 0 a (Or.inr rfl)]; exact h a ha
/-- a never: its first number, its word (0 on, 1 in, 2 beside, 3 at, 4 most), its second number -/
def nvW (p w q : Nat) : Prop := w < 5 ∧ (w = 4 → p < 8 ∧ q ≤ 200) ∧ (w = 3 → p < 4 ∧ q < 8) ∧ (w < 3 → p < 4 ∧ q < 4)
def nvC (μ : sM) (j p w q : Nat) : Prop := μ.1 30 0 j = nI p ∧ (w = 4 → μ.1 29 0 j = 1 ∧ μ.1 31 0 j = nI q) ∧ (w = 3 → μ.1 29 0 j = 2 ∧ μ.1 31 0 j = nI q) ∧ (w < 3 → μ.1 29 0 j = 0 ∧ μ.1 31 0 j = nI w ∧ μ.1 32 0 j = nI q)
def nvR (μ : sM) (j p w q : Nat) : Prop := μ.1 54 0 (3 * j) = nI p ∧ μ.1 54 0 (3 * j + 1) = nI w ∧ μ.1 54 0 (3 * j + 2) = nI q
def nvG (μ : sM) (nv : Nat) (p w q : Nat → Nat) : Prop := nv ≤ 16 ∧ μ.1 28 0 5 = nI nv ∧ μ.1 28 0 6 = 0 ∧ μ.1 41 0 17 = nI nv ∧ ∀ j, j < nv → nvW (p j) (w j) (q j) ∧ nvC μ j (p j) (w j) (q j) ∧ nvR μ j (p j) (w j) (q j)
def fN (a _ k : Nat) : Prop := (a = 28 ∧ 5 ≤ k) ∨ (29 ≤ a ∧ a ≤ 32) ∨ (a = 41 ∧ k = 17) ∨ a = 54
theorem nvG.fr {μ μ' : sM} {nv : Nat} {p w q : Nat → Nat} (h : nvG μ nv p w q) (e : frm fN μ μ') : nvG μ' nv p w q := by
  unfold nvG nvC nvR
  rw [e 28 0 5 (by unfold fN; omega), e 28 0 6 (by unfold fN; omega), e 41 0 17 (by unfold fN; omega)]
  refine ⟨h.1, h.2.1, h.2.2.1, h.2.2.2.1, fun j hj => ?_⟩
  rw [e 29 0 j (by unfold fN; omega), e 30 0 j (by unfold fN; omega), e 31 0 j (by unfold fN; omega), e 32 0 j (by unfold fN; omega), e 54 0 _ (by unfold fN; omega), e 54 0 _ (by unfold fN; omega), e 54 0 _ (by unfold fN; omega)]
  exact h.2.2.2.2 j hj
/-- the tape -/
def byI (b : Nat) : Int32 := if b < 128 then nI b else nI b - 256
def tpG (μ : sM) (tl : Nat) (tp : Nat → Nat) : Prop := tl ≤ 300 ∧ μ.1 33 0 2 = nI tl ∧ μ.1 41 0 21 = nI tl ∧ μ.1 33 0 6 = μ.1 41 0 22 ∧ ∀ k, k < tl → tp k < 256 ∧ μ.1 34 0 k = byI (tp k) ∧ μ.1 55 0 k = nI (tp k)
def fP (a _ k : Nat) : Prop := (a = 33 ∧ (k = 2 ∨ k = 6)) ∨ (a = 41 ∧ (k = 21 ∨ k = 22)) ∨ a = 34 ∨ a = 55
theorem tpG.fr {μ μ' : sM} {tl : Nat} {tp : Nat → Nat} (h : tpG μ tl tp) (e : frm fP μ μ') : tpG μ' tl tp := by
  unfold tpG
  rw [e 33 0 2 (by unfold fP; omega), e 33 0 6 (by unfold fP; omega), e 41 0 21 (by unfold fP; omega), e 41 0 22 (by unfold fP; omega)]
  refine ⟨h.1, h.2.1, h.2.2.1, h.2.2.2.1, fun j hj => ?_⟩
  rw [e 34 0 j (by unfold fP; omega), e 55 0 j (by unfold fP; omega)]
  exact h.2.2.2.2 j hj
/-- the trace -/
def trG (μ : sM) (nt : Nat) : Prop := nt ≤ 16 ∧ μ.1 39 0 3 = nI nt ∧ μ.1 41 0 33 = nI nt ∧ ∀ k, k < nt → μ.1 40 0 k = μ.1 58 0 k
def fX (a _ k : Nat) : Prop := (a = 39 ∧ k = 3) ∨ (a = 41 ∧ k = 33) ∨ a = 40 ∨ a = 58
theorem trG.fr {μ μ' : sM} {nt : Nat} (h : trG μ nt) (e : frm fX μ μ') : trG μ' nt := by
  unfold trG
  rw [e 39 0 3 (by unfold fX; omega), e 41 0 33 (by unfold fX; omega)]
  refine ⟨h.1, h.2.1, h.2.2.1, fun j hj => ?_⟩
  rw [e 40 0 j (by unfold fX; omega), e 58 0 j (by unfold fX; omega)]
  exact h.2.2.2 j hj
/-- the finding -/
def stG (μ : sM) : Prop := μ.1 0 0 11 = μ.1 41 0 1
def fF (a _ k : Nat) : Prop := (a = 0 ∧ k = 11) ∨ (a = 41 ∧ k = 1)
theorem stG.fr {μ μ' : sM} (h : stG μ) (e : frm fF μ μ') : stG μ' := by
  unfold stG
  rw [e 0 0 11 (by unfold fF; omega), e 41 0 1 (by unfold fF; omega)]; exact h
/-! lessons -/
def lsG (μ : sM) (κ lm : Nat) (st en no te sd : Nat → Nat) : Prop := lm ≤ 8 ∧ μ.1 20 0 8 = nI lm ∧ μ.1 41 0 8 = nI lm ∧ (∀ l, l < lm → st l < κ ∧ en l < κ ∧ no l < 2 ∧ te l < 10 ∧ sd l < 2) ∧
  (∀ l, l < lm → μ.1 21 0 l = nI (st l) ∧ μ.1 22 0 l = nI (en l) ∧ μ.1 23 0 l = nI (no l) ∧ μ.1 24 0 l = nI (te l) ∧ μ.1 25 0 l = nI (sd l)) ∧
  (∀ l, l < lm → μ.1 46 0 l = nI (st l) ∧ μ.1 47 0 l = nI (en l) ∧ μ.1 48 0 l = nI (no l) ∧ μ.1 49 0 l = nI (te l) ∧ μ.1 50 0 l = nI (1 - sd l)) ∧ ∀ l, lm ≤ l → l < 8 → μ.1 50 0 l = 0
def fL (a _ k : Nat) : Prop := (a = 20 ∧ k = 8) ∨ (21 ≤ a ∧ a ≤ 25) ∨ (a = 41 ∧ k = 8) ∨ (46 ≤ a ∧ a ≤ 50)
theorem lsG.fr {μ μ' : sM} {κ lm : Nat} {st en no te sd : Nat → Nat} (h : lsG μ κ lm st en no te sd) (e : frm fL μ μ') : lsG μ' κ lm st en no te sd := by
  unfold lsG
  rw [e 20 0 8 (by unfold fL; omega), e 41 0 8 (by unfold fL; omega)]
  refine ⟨h.1, h.2.1, h.2.2.1, h.2.2.2.1, fun l hl => ?_, fun l hl => ?_, fun l hl hl' => ?_⟩
  · rw [e 21 0 l (by unfold fL; omega), e 22 0 l (by unfold fL; omega), e 23 0 l (by unfold fL; omega), e 24 0 l (by unfold fL; omega), e 25 0 l (by unfold fL; omega)]; exact h.2.2.2.2.1 l hl
  · rw [e 46 0 l (by unfold fL; omega), e 47 0 l (by unfold fL; omega), e 48 0 l (by unfold fL; omega), e 49 0 l (by unfold fL; omega), e 50 0 l (by unfold fL; omega)]; exact h.2.2.2.2.2.1 l hl
  · rw [e 50 0 l (by unfold fL; omega)]; exact h.2.2.2.2.2.2 l hl hl'
/-! the tables: now is tb 0, the k-th kept is tb (k + 1) -/
noncomputable def ocT (so : Nat → Nat) (n : Nat) (T : tT) (o : Nat) : Int64 := if (odT so n T o).1 = 99 then -1 else Int64.ofNat (pcN (odT so n T o).2 n)
def caG (μ : sM) (so : Nat → Nat) (n lr : Nat) (tb : Nat → tT) : Prop := ∀ k, k < lr → μ.2 18 k = Int64.ofNat (pcN (tb (k + 1)) n) ∧ ∀ o, o < 96 → μ.2 19 (96 * k + o) = ocT so n (tb (k + 1)) o
def tbG (μ : sM) (n : Nat) (so wt : Nat → Nat) (κ : Nat) (tb : Nat → tT) : Prop := stkC μ n so wt ∧ stkR μ n so wt ∧ κ ≤ 8 ∧ μ.1 16 0 5 = nI κ ∧ μ.1 41 0 6 = nI κ ∧ (∀ t, t ≤ κ → wfT so n (tb t)) ∧ tabC μ 0 n (tb 0) ∧ (∀ k, k < κ → tabC μ (3 + k) n (tb (k + 1))) ∧ ∀ t, t ≤ κ → tabR μ t (tb t)
def lrG (μ : sM) (n : Nat) (so : Nat → Nat) (κ : Nat) (tb : Nat → tT) (lr : Nat) : Prop := lr ≤ κ ∧ μ.1 16 0 6 = nI lr ∧ caG μ so n lr tb
def fT (a i k : Nat) : Prop := (5 ≤ a ∧ a ≤ 7) ∨ (9 ≤ a ∧ a ≤ 12 ∧ i ≠ 1 ∧ i ≠ 2) ∨ (a = 16 ∧ 5 ≤ k) ∨ (a = 41 ∧ (k = 3 ∨ k = 6)) ∨ (a = 42 ∧ k < 558) ∨ a = 43 ∨ a = 44
theorem stkC.fr {μ μ' : sM} {n : Nat} {so wt : Nat → Nat} (h : stkC μ n so wt) (e : frm fT μ μ') : stkC μ' n so wt := by
  refine ⟨?_, h.2.1, fun k hk => ?_⟩
  · rw [e 5 0 2 (by unfold fT; omega)]; exact h.1
  · rw [e 6 0 k (by unfold fT; omega), e 7 0 k (by unfold fT; omega)]; exact h.2.2 k hk
theorem stkR.fr {μ μ' : sM} {n : Nat} {so wt : Nat → Nat} (h : stkR μ n so wt) (e : frm fT μ μ') : stkR μ' n so wt := by
  refine ⟨?_, h.2.1, fun k hk => ?_⟩
  · rw [e 41 0 3 (by unfold fT; omega)]; exact h.1
  · rw [e 43 0 k (by unfold fT; omega), e 44 0 k (by unfold fT; omega)]; exact h.2.2 k hk
theorem tabC.fr {μ μ' : sM} {t n : Nat} {T : tT} (h : tabC μ t n T) (e : frm fT μ μ') (ht : t ≠ 1 ∧ t ≠ 2) : tabC μ' t n T := by
  refine ⟨fun k hk => ?_, fun k hk hk' => ?_, fun b hb => ?_, fun c hc => ?_⟩
  · rw [e 9 t k (by unfold fT; omega), e 10 t k (by unfold fT; omega)]; exact h.1 k hk
  · rw [e 9 t k (by unfold fT; omega), e 10 t k (by unfold fT; omega)]; exact h.2.1 k hk hk'
  · rw [e 11 t b (by unfold fT; omega)]; exact h.2.2.1 b hb
  · rw [e 12 t c (by unfold fT; omega)]; exact h.2.2.2 c hc
theorem tabR.fr {μ μ' : sM} {r : Nat} {T : tT} (h : tabR μ r T) (e : frm fT μ μ') (hr : r ≤ 8) : tabR μ' r T := by
  refine ⟨fun c hc => ?_, fun c i hc hi => ?_, fun k hk => ?_⟩
  · rw [e 42 0 _ (by unfold fT; omega)]; exact h.1 c hc
  · rw [e 42 0 _ (by unfold fT; omega)]; exact h.2.1 c i hc hi
  · rw [e 42 0 _ (by unfold fT; omega)]; exact h.2.2 k hk
theorem tbG.fr {μ μ' : sM} {n κ : Nat} {so wt : Nat → Nat} {tb : Nat → tT} (h : tbG μ n so wt κ tb) (e : frm fT μ μ') : tbG μ' n so wt κ tb := by
  have hκ := h.2.2.1
  refine ⟨h.1.fr e, h.2.1.fr e, hκ, ?_, ?_, h.2.2.2.2.2.1, h.2.2.2.2.2.2.1.fr e (by omega), fun k hk => (h.2.2.2.2.2.2.2.1 k hk).fr e (by omega), fun t ht => (h.2.2.2.2.2.2.2.2 t ht).fr e (by omega)⟩
  · rw [e 16 0 5 (by unfold fT; omega)]; exact h.2.2.2.1
  · rw [e 41 0 6 (by unfold fT; omega)]; exact h.2.2.2.2.1
theorem lrG.fr {μ μ' : sM} {n κ lr : Nat} {so : Nat → Nat} {tb : Nat → tT} (h : lrG μ n so κ tb lr) (e : frm fT μ μ') (e2 : μ'.2 = μ.2) : lrG μ' n so κ tb lr := by
  unfold lrG caG
  rw [e 16 0 6 (by unfold fT; omega), e2]
  exact h
/-- all but the tables -/
def fO (a i k : Nat) : Prop := fS a i k ∨ fR a i k ∨ fN a i k ∨ fP a i k ∨ fX a i k ∨ fF a i k ∨ fL a i k ∨ a = 59
def oth (μ : sM) (κ : Nat) (ξ : Nat → Nat → Int32) : Prop := SG μ ∧ (∃ rc, rcG μ rc) ∧ (∃ nv p w q, nvG μ nv p w q) ∧ (∃ tl tp, tpG μ tl tp) ∧ (∃ nt, trG μ nt) ∧ stG μ ∧ (∃ lm st en no te sd, lsG μ κ lm st en no te sd) ∧ μ.1 59 = ξ
theorem frm.sub {F G : Nat → Nat → Nat → Prop} {μ μ' : sM} (h : frm F μ μ') (hs : ∀ a i k, G a i k → F a i k) : frm G μ μ' := fun a i k z => h a i k (hs a i k z)
theorem oth.fr {μ μ' : sM} {κ : Nat} {ξ : Nat → Nat → Int32} (h : oth μ κ ξ) (e : frm fO μ μ') : oth μ' κ ξ := by
  obtain ⟨h1, ⟨rc, h2⟩, ⟨nv, p, w, q, h3⟩, ⟨tl, tp, h4⟩, ⟨nt, h5⟩, h6, ⟨lm, st, en, no, te, sd, h7⟩, h8⟩ := h
  refine ⟨h1.fr (e.sub fun _ _ _ z => Or.inl z), ⟨rc, h2.fr (e.sub fun _ _ _ z => Or.inr (Or.inl z))⟩, ⟨nv, p, w, q, h3.fr (e.sub fun _ _ _ z => Or.inr (Or.inr (Or.inl z)))⟩, ⟨tl, tp, h4.fr (e.sub fun _ _ _ z => Or.inr (Or.inr (Or.inr (Or.inl z))))⟩, ⟨nt, h5.fr (e.sub fun _ _ _ z => Or.inr (Or.inr (Or.inr (Or.inr (Or.inl z)))))⟩, h6.fr (e.sub fun _ _ _ z => Or.inr (Or.inr (Or.inr (Or.inr (Or.inr (Or.inl z)))))), ⟨lm, st, en, no, te, sd, h7.fr (e.sub fun _ _ _ z => Or.inr (Or.inr (Or.inr (Or.inr (Or.inr (Or.inr (Or.inl z)))))))⟩, ?_⟩
  rw [← h8]
  funext i k
  exact e 59 i k (Or.inr (Or.inr (Or.inr (Or.inr (Or.inr (Or.inr (Or.inr rfl)))))))
def INV (ξ : Nat → Nat → Int32) (μ : sM) : Prop := ∃ n so wt κ tb lr, tbG μ n so wt κ tb ∧ lrG μ n so κ tb lr ∧ oth μ κ ξ
def fA (a i k : Nat) : Prop := fT a i k ∨ fO a i k
/-- nothing that counts is touched -/
theorem INV.fr {ξ : Nat → Nat → Int32} {μ μ' : sM} (h : INV ξ μ) (e : frm fA μ μ') (e2 : μ'.2 = μ.2) : INV ξ μ' := by
  obtain ⟨n, so, wt, κ, tb, lr, h1, h2, h3⟩ := h
  exact ⟨n, so, wt, κ, tb, lr, h1.fr (e.sub fun _ _ _ z => Or.inl z), h2.fr (e.sub fun _ _ _ z => Or.inl z) e2, h3.fr (e.sub fun _ _ _ z => Or.inr z)⟩
/-- the class has answered v; the reference will answer it too, and then all is well again -/
def opQ (ξ : Nat → Nat → Int32) (d y : Nat) (as : List sv) (v : Int32) (μ : sM) : Prop := ∀ Q : sQ, (∀ μ', INV ξ μ' → Q v 0 (0, 0) μ') → Call d y as μ Q
