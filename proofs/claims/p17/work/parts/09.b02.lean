/-! b02: a street G, a standing D, and what is told of them -/
def bw (x a b : Int32) : Prop := a ≤ x ∧ x ≤ b
def nO (G : gx_S) : Nat := (G 1 0).toNatClampNeg
def nP (G : gx_S) : Nat := (G 1 1).toNatClampNeg
def nS (G : gx_S) : Nat := (G 1 2).toNatClampNeg
def wh (D : gx_S) (k : Nat) : Nat := (D 2 k).toNatClampNeg
/-- the absolute value -/
def ab (x : Int32) : Int32 := if 0 ≤ x then x else 0 - x
theorem ab_d (x : Int32) : (if 0 ≤ x then x else 0 - x) = ab x := rfl
/-- what a street keeps -/
def wG (G : gx_S) : Prop := (bw (G 1 0) 0 6 ∧ bw (G 1 1) 0 6 ∧ bw (G 1 2) 0 8) ∧ (∀ j, bw (G 2 j) 0 4 ∧ bw (G 3 j) 0 99) ∧ (∀ j, bw (G 4 j) 0 9 ∧ bw (G 5 j) 0 9) ∧ (∀ j, bw (G 6 j) 0 9 ∧ bw (G 7 j) 0 50 ∧ bw (G 8 j) 0 5 ∧ bw (G 9 j) 0 30 ∧ bw (G 10 j) (-1) 5 ∧ bw (G 11 j) 0 9)
/-- whose the shops are: owners' numbers -/
def w0 (D : gx_S) : Prop := ∀ j, j < 6 → bw (D 2 j) 0 5
theorem bw_n {x : Int32} {n : Nat} (hn : n < 2147483648) (h : bw x 0 (nn n)) : x = nn x.toNatClampNeg ∧ x.toNatClampNeg ≤ n := by
  have e := nn_of h.1
  refine ⟨e, ?_⟩
  have h2 := h.2
  rw [Int32.le_iff_toInt_le, nn_i hn] at h2
  show x.toInt.toNat ≤ n
  omega
theorem wG_O {G : gx_S} (h : wG G) : G 1 0 = nn (nO G) ∧ nO G ≤ 6 := bw_n (n := 6) (by decide) h.1.1
theorem wG_P {G : gx_S} (h : wG G) : G 1 1 = nn (nP G) ∧ nP G ≤ 6 := bw_n (n := 6) (by decide) h.1.2.1
theorem wG_S {G : gx_S} (h : wG G) : G 1 2 = nn (nS G) ∧ nS G ≤ 8 := bw_n (n := 8) (by decide) h.1.2.2
theorem w0_w {D : gx_S} (h : w0 D) {j : Nat} (hj : j < 6) : D 2 j = nn (wh D j) ∧ wh D j < 6 := by
  have := bw_n (n := 5) (by decide) (h j hj)
  exact ⟨this.1, Nat.lt_succ_of_le this.2⟩
/-- what a shop is to a sort beside its price; what it is; whether it is open; what it costs an owner -/
def bes (G : gx_S) (s k : Nat) : Int32 := G 8 s * ab (G 6 s - G 4 k) - (if G 10 s = nn k then G 11 s else 0)
def isv (G D : gx_S) (s k : Nat) : Int32 := D 1 k + bes G s k
def opn (G D : gx_S) (k : Nat) : Bool := !(decide (G 2 (wh D k) = 4) && decide (D 3 (wh D k) = 0))
def ib (b : Bool) : Int32 := if b then 1 else 0
theorem ib_t : ib true = 1 := rfl
theorem ib_f : ib false = 0 := rfl
theorem ib_0 {b : Bool} : ib b = 0 ↔ b = false := by cases b <;> decide
def co (G : gx_S) (o k : Nat) : Int32 := if G 2 o = 3 then (if 0 < G 5 k - G 3 o then G 5 k - G 3 o else 0) else G 5 k
/-- the first least of those that are open, below w + 1 -/
def chN (is : Nat → Int32) (op : Nat → Bool) (w : Int32) : Nat → Int32 × Int32
  | 0 => (-1, w + 1)
  | k + 1 => if is k < (chN is op w k).2 ∧ op k = true then (nn k, is k) else chN is op w k
/-- where a sort goes if one shop is shut -/
def opx (G D : gx_S) (sh : Int32) (k : Nat) : Bool := opn G D k && !decide (nn k = sh)
def cho (G D : gx_S) (s : Nat) (sh : Int32) : Int32 := (chN (isv G D s) (opx G D sh) (G 9 s) (nP G)).1
def spa (G D : gx_S) (s : Nat) : Int32 := if cho G D s (-1) = -1 then 0 else G 9 s - isv G D s (cho G D s (-1)).toNatClampNeg
/-- over the sorts that go somewhere: so many times what g tells of the shop -/
def sx (G D : gx_S) (g : Nat → Int32) (s : Nat) : Int32 := if cho G D s (-1) = -1 then 0 else G 7 s * g (cho G D s (-1)).toNatClampNeg
theorem sx_d (G D : gx_S) (g : Nat → Int32) (s : Nat) : sx G D g s = if cho G D s (-1) = -1 then 0 else G 7 s * g (cho G D s (-1)).toNatClampNeg := rfl
def tot (G D : gx_S) (g : Nat → Int32) : Int32 := sm (sx G D g) (nS G)
def bi (x : Int32) (k : Nat) : Int32 := (x >>> (nn k &&& 31)) &&& 1
def gPr (G D : gx_S) (o k : Nat) : Int32 := if D 2 k = nn o then D 1 k - co G o k else 0
def gSo (x : Int32) (k : Nat) : Int32 := if bi x k = 1 then 1 else 0
def gMa (G D : gx_S) (x : Int32) (k : Nat) : Int32 := if bi x k = 1 then D 1 k - G 5 k else 0
def pro (G D : gx_S) (o : Nat) : Int32 := tot G D (gPr G D o)
/-- the first least, told -/
def isC (M : Nat → Prop) (is : Nat → Int32) (w : Int32) (n : Nat) (l c : Int32) : Prop := (c = -1 ∧ l = w + 1 ∧ ∀ j, j < n → M j → w + 1 ≤ is j) ∨ ∃ i, i < n ∧ c = nn i ∧ l = is i ∧ M i ∧ is i < w + 1 ∧ ∀ j, j < n → M j → is i ≤ is j ∧ (j < i → is i < is j)
theorem chN_isC (is : Nat → Int32) (op : Nat → Bool) (w : Int32) : ∀ n, isC (fun k => op k = true) is w n (chN is op w n).2 (chN is op w n).1
  | 0 => Or.inl ⟨rfl, rfl, fun j h => absurd h (by omega)⟩
  | n + 1 => by
    have ih := chN_isC is op w n
    unfold chN
    by_cases h : is n < (chN is op w n).2 ∧ op n = true
    · rw [if_pos h]
      refine Or.inr ⟨n, by omega, rfl, rfl, h.2, ?_, ?_⟩
      · rcases ih with ⟨_, e, _⟩ | ⟨i, _, _, e, _, q, _⟩
        · rw [e] at h; exact h.1
        · rw [e] at h; lia
      · intro j hj hm
        rcases Nat.lt_or_ge j n with q | q
        · rcases ih with ⟨_, e, a⟩ | ⟨i, _, _, e, _, _, a⟩
          · have := a j q hm
            rw [e] at h
            have := h.1
            constructor
            · lia
            · intro _; lia
          · have := (a j q hm).1
            rw [e] at h
            have := h.1
            constructor
            · lia
            · intro _; lia
        · have : j = n := by omega
          subst this
          exact ⟨Int32.le_refl _, fun q => absurd q (by omega)⟩
    · rw [if_neg h]
      have hn : op n = true → (chN is op w n).2 ≤ is n := fun ho => by
        rcases Int32.le_total (chN is op w n).2 (is n) with q | q
        · exact q
        · rcases Decidable.em (is n = (chN is op w n).2) with e | e
          · rw [e]; exact Int32.le_refl _
          · exact absurd ⟨by lia, ho⟩ h
      rcases ih with ⟨e1, e2, a⟩ | ⟨i, h1, e1, e2, h2, h3, a⟩
      · refine Or.inl ⟨e1, e2, fun j hj hm => ?_⟩
        rcases Nat.lt_or_ge j n with q | q
        · exact a j q hm
        · have : j = n := by omega
          subst this
          rw [← e2]; exact hn hm
      · refine Or.inr ⟨i, by omega, e1, e2, h2, h3, fun j hj hm => ?_⟩
        rcases Nat.lt_or_ge j n with q | q
        · exact a j q hm
        · have : j = n := by omega
          subst this
          rw [← e2]
          exact ⟨hn hm, fun q => absurd q (by omega)⟩
theorem isC_u {M : Nat → Prop} {is : Nat → Int32} {w : Int32} {n : Nat} {l c l' c' : Int32} (h : isC M is w n l c) (h' : isC M is w n l' c') : l = l' ∧ c = c' := by
  rcases h with ⟨e1, e2, a⟩ | ⟨i, h1, e1, e2, h2, h3, a⟩
  · rcases h' with ⟨f1, f2, b⟩ | ⟨i', g1, f1, f2, g2, g3, b⟩
    · exact ⟨e2.trans f2.symm, e1.trans f1.symm⟩
    · have := a i' g1 g2
      lia
  · rcases h' with ⟨f1, f2, b⟩ | ⟨i', g1, f1, f2, g2, g3, b⟩
    · have := b i h1 h2
      lia
    · have x1 := a i' g1 g2
      have x2 := b i h1 h2
      have : i = i' := by
        rcases Nat.lt_trichotomy i i' with q | q | q
        · have := x2.2 q
          lia
        · exact q
        · have := x1.2 q
          lia
      subst this
      exact ⟨e2.trans f2.symm, e1.trans f1.symm⟩
theorem isC_cg {M M' : Nat → Prop} {is is' : Nat → Int32} {w : Int32} {n : Nat} {l c : Int32} (h : isC M is w n l c) (hM : ∀ j, j < n → (M j ↔ M' j)) (hi : ∀ j, j < n → M j → is j = is' j) : isC M' is' w n l c := by
  rcases h with ⟨e1, e2, a⟩ | ⟨i, h1, e1, e2, h2, h3, a⟩
  · exact Or.inl ⟨e1, e2, fun j hj hm => by rw [← hi j hj ((hM j hj).mpr hm)]; exact a j hj ((hM j hj).mpr hm)⟩
  · refine Or.inr ⟨i, h1, e1, by rw [e2]; exact hi i h1 h2, (hM i h1).mp h2, by rw [← hi i h1 h2]; exact h3, fun j hj hm => ?_⟩
    have hm' := (hM j hj).mpr hm
    rw [← hi i h1 h2, ← hi j hj hm']
    exact a j hj hm'
theorem cho_isC (G D : gx_S) (s : Nat) (sh : Int32) : ∃ l, isC (fun k => opx G D sh k = true) (isv G D s) (G 9 s) (nP G) l (cho G D s sh) := ⟨_, chN_isC _ _ _ _⟩
theorem cho_u {G D : gx_S} {s : Nat} {sh l c : Int32} (h : isC (fun k => opx G D sh k = true) (isv G D s) (G 9 s) (nP G) l c) : c = cho G D s sh := (isC_u h (chN_isC _ _ _ _)).2
theorem cho_n (G D : gx_S) (s : Nat) (sh : Int32) : cho G D s sh = -1 ∨ ∃ i, i < nP G ∧ cho G D s sh = nn i ∧ opx G D sh i = true := by
  obtain ⟨l, h⟩ := cho_isC G D s sh
  rcases h with ⟨e, _⟩ | ⟨i, h1, e, _, h2, _⟩
  · exact Or.inl e
  · exact Or.inr ⟨i, h1, e, h2⟩
