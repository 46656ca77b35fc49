/-! b01: numbers, what a model gives, loops, sums -/
def nn (k : Nat) : Int32 := Int32.ofNat k
theorem nn_c {k : Nat} (h : k < 2147483648) : (nn k).toNatClampNeg = k := Int32.toNatClampNeg_ofNat_of_lt h
theorem nn_i {k : Nat} (h : k < 2147483648) : (nn k).toInt = k := Int32.toInt_ofNat_of_lt h
theorem nn_s (k : Nat) : nn k + 1 = nn (k + 1) := by
  show Int32.ofNat k + Int32.ofNat 1 = Int32.ofNat (k + 1)
  rw [Int32.ofNat_add]
theorem nn_add (a b : Nat) : nn a + nn b = nn (a + b) := by
  show Int32.ofNat a + Int32.ofNat b = Int32.ofNat (a + b)
  rw [Int32.ofNat_add]
theorem nn_le {a b : Nat} (ha : a < 2147483648) (hb : b < 2147483648) : nn a ≤ nn b ↔ a ≤ b := by
  rw [Int32.le_iff_toInt_le, nn_i ha, nn_i hb]; omega
theorem nn_lt {a b : Nat} (ha : a < 2147483648) (hb : b < 2147483648) : nn a < nn b ↔ a < b := by
  rw [Int32.lt_iff_toInt_lt, nn_i ha, nn_i hb]; omega
theorem nn_eq {a b : Nat} (ha : a < 2147483648) (hb : b < 2147483648) : nn a = nn b ↔ a = b := by
  rw [← Int32.toInt_inj, nn_i ha, nn_i hb]; omega
theorem nn_m1 {a : Nat} (ha : a < 2147483648) : ¬ nn a = -1 := by
  rw [← Int32.toInt_inj, nn_i ha]
  have : (-1 : Int32).toInt = -1 := by decide
  omega
theorem nn_p {k : Nat} (h : 0 < k) : nn k - 1 = nn (k - 1) := by
  obtain ⟨m, rfl⟩ : ∃ m, k = m + 1 := ⟨k - 1, by omega⟩
  rw [← nn_s]
  simp
theorem nn_of {x : Int32} (h : 0 ≤ x) : x = nn x.toNatClampNeg := by
  have := Int32.ofNat_toNatClampNeg x (by simpa using h)
  exact this.symm
theorem nn_0 : (0 : Int32) = nn 0 := rfl
/-- what a model gives -/
def gt {R : Type} (o : Option R) (P : R → Prop) : Prop := ∃ r, o = some r ∧ P r
theorem gt_some {R : Type} {r : R} {P : R → Prop} (h : P r) : gt (some r) P := ⟨r, rfl, h⟩
theorem gt_mono {R : Type} {o : Option R} {P Q : R → Prop} (h : gt o P) (hq : ∀ r, P r → Q r) : gt o Q := by
  obtain ⟨r, e, p⟩ := h
  exact ⟨r, e, hq r p⟩
theorem gt_of {R : Type} {o : Option R} {r : R} (h : o = some r) : gt o (fun x => x = r) := ⟨r, h, rfl⟩
theorem gt_to {R : Type} {o : Option R} {r : R} (h : gt o (fun x => x = r)) : o = some r := by
  obtain ⟨x, e, p⟩ := h
  rw [e, p]
theorem gt_ite {R : Type} {c : Prop} [Decidable c] {a b : Option R} {P : R → Prop} (h1 : c → gt a P) (h2 : ¬ c → gt b P) : gt (if c then a else b) P := by
  by_cases h : c
  · rw [if_pos h]; exact h1 h
  · rw [if_neg h]; exact h2 h
theorem gt_let {R : Type} {v : gx_S} {k : gx_S → Option R} {P : R → Prop} (h : gt (k v) P) : gt (gx_let v k) P := h
theorem gt_cp {A R : Type} {o : Option A} {k : A → Option R} {Q : A → Prop} {P : R → Prop} (h : gt o Q) (h2 : ∀ a, Q a → gt (k a) P) : gt (gx_cp o k) P := by
  obtain ⟨a, e, q⟩ := h
  subst e
  exact h2 a q
theorem gt_cs {A R : Type} {o : Option (A × gx_S)} {k : A → gx_S → Option R} {Q : A × gx_S → Prop} {P : R → Prop} (h : gt o Q) (h2 : ∀ a S, Q (a, S) → gt (k a S) P) : gt (gx_cs o k) P := by
  obtain ⟨⟨a, S⟩, e, q⟩ := h
  subst e
  exact h2 a S q
theorem ck_n {R : Type} {N k : Nat} {x : Option R} (h : k < N) (hN : N ≤ 2147483647) : gx_ck N (nn k) x = x := by
  have hc : ¬ (nn k < 0 ∨ N ≤ (nn k).toNatClampNeg) := by
    rw [nn_c (by omega), nn_0, nn_lt (by omega) (by omega)]
    omega
  unfold gx_ck
  rw [if_neg hc]
theorem ck_0 {R : Type} {N : Nat} {x : Option R} (h : 0 < N) (hN : N ≤ 2147483647) : gx_ck N (0 : Int32) x = x := ck_n (k := 0) h hN
theorem cp_s {A R : Type} {v : A} {k : A → Option R} : gx_cp (some v) k = k v := rfl
theorem cs_s {A R : Type} {v : A} {S : gx_S} {k : A → gx_S → Option R} : gx_cs (some (v, S)) k = k v S := rfl
theorem let_s {R : Type} {v : gx_S} {k : gx_S → Option R} : gx_let v k = k v := rfl
theorem bz_0 {R : Type} {k : Option R} : gx_bz 0 k = k := by simp [gx_bz]
theorem bz_1 {R : Type} {k : Option R} : gx_bz 1 k = k := by simp [gx_bz]
theorem gx_loop_s {L R : Type} {body : L → (L → Option R) → Option R} {n : Nat} {t : L} : gx_loop body (n + 1) t = body t (gx_loop body n) := rfl
/-- a counted loop: I j holds ahead of turn j -/
theorem gt_for {L R : Type} {body : L → (L → Option R) → Option R} {P : R → Prop} (n : Nat) (I : Nat → L → Prop) (hb : ∀ j t k, j < n → I j t → (∀ t', I (j + 1) t' → gt (k t') P) → gt (body t k) P) (he : ∀ t k, I n t → gt (body t k) P) : ∀ (i m : Nat) (t : L), i ≤ n → I i t → n < i + m → gt (gx_loop body m t) P
  | i, 0, t, h1, _, h3 => absurd h3 (by omega)
  | i, m + 1, t, h1, hI, h3 => by
    rw [gx_loop_s]
    rcases Nat.lt_or_ge i n with q | q
    · exact hb i t _ q hI (fun t' h' => gt_for n I hb he (i + 1) m t' (by omega) h' (by omega))
    · have : i = n := by omega
      subst this
      exact he t _ hI
/-- a loop: I holds at each turn, and what f tells falls -/
theorem gt_loop {L R : Type} {body : L → (L → Option R) → Option R} {P : R → Prop} (I : L → Prop) (f : L → Nat) (hb : ∀ t k, I t → (∀ t', I t' → f t' < f t → gt (k t') P) → gt (body t k) P) : ∀ (n : Nat) (t : L), I t → f t < n → gt (gx_loop body n t) P
  | 0, t, _, h => absurd h (by omega)
  | n + 1, t, hI, h => by
    rw [gx_loop_s]
    exact hb t _ hI (fun t' h1 h2 => gt_loop I f hb n t' h1 (by omega))
/-- a counted loop whose turns are told -/
theorem lp_for {L R : Type} {body : L → (L → Option R) → Option R} {o : Option R} (n : Nat) (st : Nat → L) (hb : ∀ j k, j < n → body (st j) k = k (st (j + 1))) (he : ∀ k, body (st n) k = o) : ∀ (i m : Nat), i ≤ n → n < i + m → gx_loop body m (st i) = o
  | i, 0, h1, h3 => absurd h3 (by omega)
  | i, m + 1, h1, h3 => by
    rw [gx_loop_s]
    rcases Nat.lt_or_ge i n with q | q
    · rw [hb i _ q]
      exact lp_for n st hb he (i + 1) m (by omega) (by omega)
    · have : i = n := by omega
      subst this
      exact he _
/-- a counted loop that may end early: at the turn j where x j is some -/
theorem lp_if {L R : Type} {body : L → (L → Option R) → Option R} {o : Option R} (n : Nat) (st : Nat → L) (w : Nat → Option (Option R)) (hb : ∀ j k, j < n → body (st j) k = (match w j with | some r => r | none => k (st (j + 1)))) (he : ∀ k, body (st n) k = o) : ∀ (i m : Nat), i ≤ n → n < i + m → gx_loop body m (st i) = (((List.range' i (n - i)).findSome? w).getD o)
  | i, 0, h1, h3 => absurd h3 (by omega)
  | i, m + 1, h1, h3 => by
    rw [gx_loop_s]
    rcases Nat.lt_or_ge i n with q | q
    · rw [hb i _ q]
      obtain ⟨d, hd⟩ : ∃ d, n - i = d + 1 := ⟨n - i - 1, by omega⟩
      rw [hd, List.range'_succ, List.findSome?_cons]
      cases hw : w i with
      | some r => simp
      | none =>
        simp only
        rw [lp_if n st w hb he (i + 1) m (by omega) (by omega)]
        have : n - (i + 1) = d := by omega
        rw [this]
    · have : i = n := by omega
      subst this
      rw [he]
      simp
/-- sums -/
def sm (f : Nat → Int32) : Nat → Int32
  | 0 => 0
  | k + 1 => sm f k + f k
theorem sm_cg {f g : Nat → Int32} : ∀ {n : Nat}, (∀ j, j < n → f j = g j) → sm f n = sm g n
  | 0, _ => rfl
  | n + 1, h => by
    show sm f n + f n = sm g n + g n
    rw [sm_cg (fun j hj => h j (by omega)), h n (by omega)]
theorem sm_add {f g : Nat → Int32} : ∀ {n : Nat}, sm (fun j => f j + g j) n = sm f n + sm g n
  | 0 => by simp [sm]
  | n + 1 => by
    show sm (fun j => f j + g j) n + (f n + g n) = sm f n + f n + (sm g n + g n)
    rw [sm_add]
    grind
theorem sm_0 {n : Nat} : sm (fun _ => 0) n = 0 := by
  induction n with
  | zero => rfl
  | succ n h => show sm _ n + 0 = 0; rw [h]; rfl
theorem sm_mul {f : Nat → Int32} {c : Int32} : ∀ {n : Nat}, sm (fun j => f j * c) n = sm f n * c
  | 0 => by simp [sm]
  | n + 1 => by
    show sm (fun j => f j * c) n + f n * c = (sm f n + f n) * c
    rw [sm_mul]
    grind
theorem sm_swap {f : Nat → Nat → Int32} {n : Nat} : ∀ {m : Nat}, sm (fun i => sm (f i) n) m = sm (fun j => sm (fun i => f i j) m) n
  | 0 => by show (0 : Int32) = _; rw [show (fun j => sm (fun i => f i j) 0) = (fun _ => (0 : Int32)) from rfl, sm_0]
  | m + 1 => by
    show sm (fun i => sm (f i) n) m + sm (f m) n = _
    rw [sm_swap, ← sm_add]
    rfl
/-- of one place alone -/
theorem sm_one {g : Nat → Int32} {c : Nat} : ∀ {n : Nat}, sm (fun j => if j = c then g j else 0) n = if c < n then g c else 0
  | 0 => by simp [sm]
  | n + 1 => by
    show sm (fun j => if j = c then g j else 0) n + (if n = c then g n else 0) = _
    rw [sm_one]
    by_cases h : n = c
    · subst h; simp
    · by_cases h2 : c < n
      · rw [if_pos h2, if_neg h, if_pos (by omega)]; simp
      · rw [if_neg h2, if_neg h, if_neg (by omega)]; simp
theorem xx_1 (a b c : Int32) (h1 : 0 ≤ a) (h2 : a ≤ 9) (h3 : -50 ≤ b) (h4 : b ≤ 60) (h5 : -100 ≤ c) (h6 : c ≤ 100) : (a + b < c) ↔ (a ≤ c - b - 1) := by
  grind
theorem xx_2 (a b c : Int32) (h1 : 0 ≤ a) (h2 : a ≤ 9) (h3 : -50 ≤ b) (h4 : b ≤ 60) (h5 : -100 ≤ c) (h6 : c ≤ 100) : (a + b ≤ c) ↔ (a ≤ c - b) := by
  lia

/-! b02: a street G, a standing D, and what is told of them -/
def bw (x a b : Int32) : Prop := a ≤ x ∧ x ≤ b
def nO (G : gx_S) : Nat := (G 1 0).toNatClampNeg
def nP (G : gx_S) : Nat := (G 1 1).toNatClampNeg
def nS (G : gx_S) : Nat := (G 1 2).toNatClampNeg
def wh (D : gx_S) (k : Nat) : Nat := (D 2 k).toNatClampNeg
/-- the absolute value -/
def ab (x : Int32) : Int32 := if 0 ≤ x then x else 0 - x
theorem ab_d (x : Int32) : (if 0 ≤ x then x else 0 - x) = ab x := rfl
/-- what a street keeps -/
def wG (G : gx_S) : Prop := (bw (G 1 0) 0 6 ∧ bw (G 1 1) 0 6 ∧ bw (G 1 2) 0 8) ∧ (∀ j, bw (G 2 j) 0 4 ∧ bw (G 3 j) 0 99) ∧ (∀ j, bw (G 4 j) 0 9 ∧ bw (G 5 j) 0 9) ∧ (∀ j, bw (G 6 j) 0 9 ∧ bw (G 7 j) 0 50 ∧ bw (G 8 j) 0 5 ∧ bw (G 9 j) 0 30 ∧ bw (G 10 j) (-1) 5 ∧ bw (G 11 j) 0 9)
/-- whose the shops are: owners' numbers -/
def w0 (D : gx_S) : Prop := ∀ j, j < 6 → bw (D 2 j) 0 5
theorem bw_n {x : Int32} {n : Nat} (hn : n < 2147483648) (h : bw x 0 (nn n)) : x = nn x.toNatClampNeg ∧ x.toNatClampNeg ≤ n := by
  have e := nn_of h.1
  refine ⟨e, ?_⟩
  have h2 := h.2
  rw [Int32.le_iff_toInt_le, nn_i hn] at h2
  show x.toInt.toNat ≤ n
  omega
theorem wG_O {G : gx_S} (h : wG G) : G 1 0 = nn (nO G) ∧ nO G ≤ 6 := bw_n (n := 6) (by decide) h.1.1
theorem wG_P {G : gx_S} (h : wG G) : G 1 1 = nn (nP G) ∧ nP G ≤ 6 := bw_n (n := 6) (by decide) h.1.2.1
theorem wG_S {G : gx_S} (h : wG G) : G 1 2 = nn (nS G) ∧ nS G ≤ 8 := bw_n (n := 8) (by decide) h.1.2.2
theorem w0_w {D : gx_S} (h : w0 D) {j : Nat} (hj : j < 6) : D 2 j = nn (wh D j) ∧ wh D j < 6 := by
  have := bw_n (n := 5) (by decide) (h j hj)
  exact ⟨this.1, Nat.lt_succ_of_le this.2⟩
/-- what a shop is to a sort beside its price; what it is; whether it is open; what it costs an owner -/
def bes (G : gx_S) (s k : Nat) : Int32 := G 8 s * ab (G 6 s - G 4 k) - (if G 10 s = nn k then G 11 s else 0)
def isv (G D : gx_S) (s k : Nat) : Int32 := D 1 k + bes G s k
def opn (G D : gx_S) (k : Nat) : Bool := !(decide (G 2 (wh D k) = 4) && decide (D 3 (wh D k) = 0))
def ib (b : Bool) : Int32 := if b then 1 else 0
theorem ib_t : ib true = 1 := rfl
theorem ib_f : ib false = 0 := rfl
theorem ib_0 {b : Bool} : ib b = 0 ↔ b = false := by cases b <;> decide
def co (G : gx_S) (o k : Nat) : Int32 := if G 2 o = 3 then (if 0 < G 5 k - G 3 o then G 5 k - G 3 o else 0) else G 5 k
/-- the first least of those that are open, below w + 1 -/
def chN (is : Nat → Int32) (op : Nat → Bool) (w : Int32) : Nat → Int32 × Int32
  | 0 => (-1, w + 1)
  | k + 1 => if is k < (chN is op w k).2 ∧ op k = true then (nn k, is k) else chN is op w k
/-- where a sort goes if one shop is shut -/
def opx (G D : gx_S) (sh : Int32) (k : Nat) : Bool := opn G D k && !decide (nn k = sh)
def cho (G D : gx_S) (s : Nat) (sh : Int32) : Int32 := (chN (isv G D s) (opx G D sh) (G 9 s) (nP G)).1
def spa (G D : gx_S) (s : Nat) : Int32 := if cho G D s (-1) = -1 then 0 else G 9 s - isv G D s (cho G D s (-1)).toNatClampNeg
/-- over the sorts that go somewhere: so many times what g tells of the shop -/
def sx (G D : gx_S) (g : Nat → Int32) (s : Nat) : Int32 := if cho G D s (-1) = -1 then 0 else G 7 s * g (cho G D s (-1)).toNatClampNeg
theorem sx_d (G D : gx_S) (g : Nat → Int32) (s : Nat) : sx G D g s = if cho G D s (-1) = -1 then 0 else G 7 s * g (cho G D s (-1)).toNatClampNeg := rfl
def tot (G D : gx_S) (g : Nat → Int32) : Int32 := sm (sx G D g) (nS G)
def bi (x : Int32) (k : Nat) : Int32 := (x >>> (nn k &&& 31)) &&& 1
def gPr (G D : gx_S) (o k : Nat) : Int32 := if D 2 k = nn o then D 1 k - co G o k else 0
def gSo (x : Int32) (k : Nat) : Int32 := if bi x k = 1 then 1 else 0
def gMa (G D : gx_S) (x : Int32) (k : Nat) : Int32 := if bi x k = 1 then D 1 k - G 5 k else 0
def pro (G D : gx_S) (o : Nat) : Int32 := tot G D (gPr G D o)
/-- the first least, told -/
def isC (M : Nat → Prop) (is : Nat → Int32) (w : Int32) (n : Nat) (l c : Int32) : Prop := (c = -1 ∧ l = w + 1 ∧ ∀ j, j < n → M j → w + 1 ≤ is j) ∨ ∃ i, i < n ∧ c = nn i ∧ l = is i ∧ M i ∧ is i < w + 1 ∧ ∀ j, j < n → M j → is i ≤ is j ∧ (j < i → is i < is j)
theorem chN_isC (is : Nat → Int32) (op : Nat → Bool) (w : Int32) : ∀ n, isC (fun k => op k = true) is w n (chN is op w n).2 (chN is op w n).1
  | 0 => Or.inl ⟨rfl, rfl, fun j h => absurd h (by omega)⟩
  | n + 1 => by
    have ih := chN_isC is op w n
    unfold chN
    by_cases h : is n < (chN is op w n).2 ∧ op n = true
    · rw [if_pos h]
      refine Or.inr ⟨n, by omega, rfl, rfl, h.2, ?_, ?_⟩
      · rcases ih with ⟨_, e, _⟩ | ⟨i, _, _, e, _, q, _⟩
        · rw [e] at h; exact h.1
        · rw [e] at h; lia
      · intro j hj hm
        rcases Nat.lt_or_ge j n with q | q
        · rcases ih with ⟨_, e, a⟩ | ⟨i, _, _, e, _, _, a⟩
          · have := a j q hm
            rw [e] at h
            have := h.1
            constructor
            · lia
            · intro _; lia
          · have := (a j q hm).1
            rw [e] at h
            have := h.1
            constructor
            · lia
            · intro _; lia
        · have : j = n := by omega
          subst this
          exact ⟨Int32.le_refl _, fun q => absurd q (by omega)⟩
    · rw [if_neg h]
      have hn : op n = true → (chN is op w n).2 ≤ is n := fun ho => by
        rcases Int32.le_total (chN is op w n).2 (is n) with q | q
        · exact q
        · rcases Decidable.em (is n = (chN is op w n).2) with e | e
          · rw [e]; exact Int32.le_refl _
          · exact absurd ⟨by lia, ho⟩ h
      rcases ih with ⟨e1, e2, a⟩ | ⟨i, h1, e1, e2, h2, h3, a⟩
      · refine Or.inl ⟨e1, e2, fun j hj hm => ?_⟩
        rcases Nat.lt_or_ge j n with q | q
        · exact a j q hm
        · have : j = n := by omega
          subst this
          rw [← e2]; exact hn hm
      · refine Or.inr ⟨i, by omega, e1, e2, h2, h3, fun j hj hm => ?_⟩
        rcases Nat.lt_or_ge j n with q | q
        · exact a j q hm
        · have : j = n := by omega
          subst this
          rw [← e2]
          exact ⟨hn hm, fun q => absurd q (by omega)⟩
theorem isC_u {M : Nat → Prop} {is : Nat → Int32} {w : Int32} {n : Nat} {l c l' c' : Int32} (h : isC M is w n l c) (h' : isC M is w n l' c') : l = l' ∧ c = c' := by
  rcases h with ⟨e1, e2, a⟩ | ⟨i, h1, e1, e2, h2, h3, a⟩
  · rcases h' with ⟨f1, f2, b⟩ | ⟨i', g1, f1, f2, g2, g3, b⟩
    · exact ⟨e2.trans f2.symm, e1.trans f1.symm⟩
    · have := a i' g1 g2
      lia
  · rcases h' with ⟨f1, f2, b⟩ | ⟨i', g1, f1, f2, g2, g3, b⟩
    · have := b i h1 h2
      lia
    · have x1 := a i' g1 g2
      have x2 := b i h1 h2
      have : i = i' := by
        rcases Nat.lt_trichotomy i i' with q | q | q
        · have := x2.2 q
          lia
        · exact q
        · have := x1.2 q
          lia
      subst this
      exact ⟨e2.trans f2.symm, e1.trans f1.symm⟩
theorem isC_cg {M M' : Nat → Prop} {is is' : Nat → Int32} {w : Int32} {n : Nat} {l c : Int32} (h : isC M is w n l c) (hM : ∀ j, j < n → (M j ↔ M' j)) (hi : ∀ j, j < n → M j → is j = is' j) : isC M' is' w n l c := by
  rcases h with ⟨e1, e2, a⟩ | ⟨i, h1, e1, e2, h2, h3, a⟩
  · exact Or.inl ⟨e1, e2, fun j hj hm => by rw [← hi j hj ((hM j hj).mpr hm)]; exact a j hj ((hM j hj).mpr hm)⟩
  · refine Or.inr ⟨i, h1, e1, by rw [e2]; exact hi i h1 h2, (hM i h1).mp h2, by rw [← hi i h1 h2]; exact h3, fun j hj hm => ?_⟩
    have hm' := (hM j hj).mpr hm
    rw [← hi i h1 h2, ← hi j hj hm']
    exact a j hj hm'
theorem cho_isC (G D : gx_S) (s : Nat) (sh : Int32) : ∃ l, isC (fun k => opx G D sh k = true) (isv G D s) (G 9 s) (nP G) l (cho G D s sh) := ⟨_, chN_isC _ _ _ _⟩
theorem cho_u {G D : gx_S} {s : Nat} {sh l c : Int32} (h : isC (fun k => opx G D sh k = true) (isv G D s) (G 9 s) (nP G) l c) : c = cho G D s sh := (isC_u h (chN_isC _ _ _ _)).2
theorem cho_n (G D : gx_S) (s : Nat) (sh : Int32) : cho G D s sh = -1 ∨ ∃ i, i < nP G ∧ cho G D s sh = nn i ∧ opx G D sh i = true := by
  obtain ⟨l, h⟩ := cho_isC G D s sh
  rcases h with ⟨e, _⟩ | ⟨i, h1, e, _, h2, _⟩
  · exact Or.inl e
  · exact Or.inr ⟨i, h1, e, h2⟩

/-! b03: the class's queries -/
/-- the class's street is G; its standing r is D -/
def vG (G S : gx_S) : Prop := (∀ q j, 1 ≤ q → q ≤ 11 → S q j = G q j) ∧ ∀ s k, s < nS G → k < nP G → S (13 + s) k = bes G s k
def vD (r : Nat) (D S : gx_S) : Prop := ∀ i j, 1 ≤ i → i ≤ 3 → j < 6 → S (21 + 4 * r + i) j = D i j
def pX (r : Nat) (G D S : gx_S) : Prop := wG G ∧ w0 D ∧ vG G S ∧ vD r D S
theorem x_costTo {G S : gx_S} (hv : vG G S) {o k : Nat} (ho : o < 6) (hk : k < 6) : m_Street_costTo (nn o) (nn k) S = some (co G o k) := by
  have v := hv.1
  unfold m_Street_costTo co
  simp (disch := omega) only [ck_n, nn_c, v]
  split
  · split <;> rfl
  · rfl
theorem x_whatIs {r : Nat} {G D S : gx_S} (h : pX r G D S) {s k : Nat} (hs : s < nS G) (hk : k < nP G) : m_Standing_whatIs r (nn s) (nn k) S = some (isv G D s k) := by
  have v := h.2.2.1.2
  have d : ∀ i j, 1 ≤ i → i ≤ 3 → j < 6 → S (21 + 4 * r + i) j = D i j := h.2.2.2
  have := (wG_P h.1).2
  have := (wG_S h.1).2
  unfold m_Standing_whatIs isv
  simp (disch := omega) only [ck_n, nn_c, v, d]
theorem x_isOpen {r : Nat} {G D S : gx_S} (h : pX r G D S) {k : Nat} (hk : k < 6) : m_Standing_isOpen r (nn k) S = some (ib (opn G D k)) := by
  have v := h.2.2.1.1
  have d : ∀ i j, 1 ≤ i → i ≤ 3 → j < 6 → S (21 + 4 * r + i) j = D i j := h.2.2.2
  obtain ⟨e, hw⟩ := w0_w h.2.1 hk
  unfold m_Standing_isOpen m_Standing_isOpen_29 opn
  simp (disch := omega) only [ck_n, nn_c, d, e, v]
  by_cases a : G 2 (wh D k) = 4
  · by_cases b : D 3 (wh D k) = 0
    · simp [a, b, ib]
    · simp [a, b, ib]
  · simp [a, ib]
theorem x_choice {r : Nat} {G D S : gx_S} (h : pX r G D S) {s : Nat} (hs : s < nS G) (sh : Int32) : m_Standing_choice r (nn s) sh S = some (cho G D s sh) := by
  have v := h.2.2.1.1
  have hS := (wG_S h.1).2
  obtain ⟨eP, hP⟩ := wG_P h.1
  unfold m_Standing_choice
  simp (disch := omega) only [ck_n, nn_c, v]
  refine lp_for (nP G) (fun j => ((chN (isv G D s) (opx G D sh) (G 9 s) j).1, (chN (isv G D s) (opx G D sh) (G 9 s) j).2, nn j)) (fun j k hj => ?_) (fun k => ?_) 0 5000 (by omega) (by omega)
  · simp only [m_Standing_choice_18, m_Standing_choice_68]
    simp (disch := omega) only [v, eP, nn_le, x_whatIs h hs hj, x_isOpen h (k := j) (by omega), cp_s, nn_s, ib_0]
    rw [if_neg (by omega)]
    rw [show chN (isv G D s) (opx G D sh) (G 9 s) (j + 1) = if isv G D s j < (chN (isv G D s) (opx G D sh) (G 9 s) j).2 ∧ opx G D sh j = true then (nn j, isv G D s j) else chN (isv G D s) (opx G D sh) (G 9 s) j from rfl]
    by_cases a : (chN (isv G D s) (opx G D sh) (G 9 s) j).2 ≤ isv G D s j
    · rw [if_pos a, if_neg (by rintro ⟨q, _⟩; lia)]
    · rw [if_neg a]
      by_cases b : nn j = sh
      · rw [if_pos b, if_neg (by rintro ⟨_, q⟩; simp [opx, b] at q)]
      · rw [if_neg b]
        by_cases c : opn G D j = false
        · rw [if_pos c, if_neg (by rintro ⟨_, q⟩; simp [opx, c] at q)]
        · rw [if_neg c, if_pos ⟨by lia, by simp [opx, b, c]⟩]
  · simp only [m_Standing_choice_18]
    simp (disch := omega) only [v, eP, nn_le]
    rw [if_pos (by omega)]
    rfl
theorem x_spareOf {r : Nat} {G D S : gx_S} (h : pX r G D S) {s : Nat} (hs : s < nS G) : m_Standing_spareOf r (nn s) S = some (spa G D s) := by
  have v := h.2.2.1.1
  have hS := (wG_S h.1).2
  have hP := (wG_P h.1).2
  unfold m_Standing_spareOf spa
  rw [x_choice h hs, cp_s]
  rcases cho_n G D s (-1) with e | ⟨i, hi, e, _⟩
  · rw [if_pos e, if_pos e]
  · rw [e, if_neg (nn_m1 (by omega)), if_neg (nn_m1 (by omega))]
    simp (disch := omega) only [ck_n, nn_c, v, x_whatIs h hs hi, cp_s]
/-- what a sum over the sorts takes at a turn -/
theorem x_profitOf {r : Nat} {G D S : gx_S} (h : pX r G D S) {o : Nat} (ho : o < 6) : m_Standing_profitOf r (nn o) S = some (pro G D o) := by
  have v := h.2.2.1.1
  have d : ∀ i j, 1 ≤ i → i ≤ 3 → j < 6 → S (21 + 4 * r + i) j = D i j := h.2.2.2
  obtain ⟨eS, hS⟩ := wG_S h.1
  have hP := (wG_P h.1).2
  unfold m_Standing_profitOf
  refine lp_for (nS G) (fun j => (sm (sx G D (gPr G D o)) j, nn j)) (fun j k hj => ?_) (fun k => ?_) 0 5000 (by omega) (by omega)
  · simp only [m_Standing_profitOf_4, m_Standing_profitOf_71]
    simp (disch := omega) only [v, eS, nn_le, x_choice h hj, cp_s, nn_s]
    rw [if_neg (by omega)]
    rw [show sm (sx G D (gPr G D o)) (j + 1) = sm (sx G D (gPr G D o)) j + sx G D (gPr G D o) j from rfl]
    rw [sx_d G D _ j]
    rcases cho_n G D j (-1) with e | ⟨i, hi, e, _⟩
    · rw [if_pos e, if_pos e, Int32.add_zero]
    · rw [e, if_neg (nn_m1 (by omega)), if_neg (nn_m1 (by omega))]
      simp (disch := omega) only [ck_n, nn_c, d, gPr, x_costTo h.2.2.1 ho (k := i), cp_s]
      by_cases q : D 2 i = nn o
      · rw [if_pos q, if_pos q]
      · rw [if_neg q, if_neg q, Int32.mul_zero, Int32.add_zero]
  · simp only [m_Standing_profitOf_4]
    simp (disch := omega) only [v, eS, nn_le]
    rw [if_pos (by omega)]
    rfl
theorem x_soldBy {r : Nat} {G D S : gx_S} (h : pX r G D S) (x : Int32) : m_Standing_soldBy r x S = some (tot G D (gSo x)) := by
  have v := h.2.2.1.1
  have d : ∀ i j, 1 ≤ i → i ≤ 3 → j < 6 → S (21 + 4 * r + i) j = D i j := h.2.2.2
  obtain ⟨eS, hS⟩ := wG_S h.1
  have hP := (wG_P h.1).2
  unfold m_Standing_soldBy
  refine lp_for (nS G) (fun j => (sm (sx G D (gSo x)) j, nn j)) (fun j k hj => ?_) (fun k => ?_) 0 5000 (by omega) (by omega)
  · simp only [m_Standing_soldBy_4, m_Standing_soldBy_51]
    simp (disch := omega) only [v, eS, nn_le, x_choice h hj, cp_s, nn_s]
    rw [if_neg (by omega)]
    rw [show sm (sx G D (gSo x)) (j + 1) = sm (sx G D (gSo x)) j + sx G D (gSo x) j from rfl]
    rw [sx_d G D _ j]
    rcases cho_n G D j (-1) with e | ⟨i, hi, e, _⟩
    · rw [if_pos e, if_pos e, Int32.add_zero]
    · rw [e, if_neg (nn_m1 (by omega)), if_neg (nn_m1 (by omega))]
      simp (disch := omega) only [ck_n, nn_c, gSo, bi, cp_s]
      by_cases q : (x >>> (nn i &&& 31)) &&& 1 = 1
      · rw [if_pos q, if_pos q, Int32.mul_one]
      · rw [if_neg q, if_neg q, Int32.mul_zero, Int32.add_zero]
  · simp only [m_Standing_soldBy_4]
    simp (disch := omega) only [v, eS, nn_le]
    rw [if_pos (by omega)]
    rfl
theorem x_marginOf {r : Nat} {G D S : gx_S} (h : pX r G D S) (x : Int32) : m_Standing_marginOf r x S = some (tot G D (gMa G D x)) := by
  have v := h.2.2.1.1
  have d : ∀ i j, 1 ≤ i → i ≤ 3 → j < 6 → S (21 + 4 * r + i) j = D i j := h.2.2.2
  obtain ⟨eS, hS⟩ := wG_S h.1
  have hP := (wG_P h.1).2
  unfold m_Standing_marginOf
  refine lp_for (nS G) (fun j => (sm (sx G D (gMa G D x)) j, nn j)) (fun j k hj => ?_) (fun k => ?_) 0 5000 (by omega) (by omega)
  · simp only [m_Standing_marginOf_4, m_Standing_marginOf_70]
    simp (disch := omega) only [v, eS, nn_le, x_choice h hj, cp_s, nn_s]
    rw [if_neg (by omega)]
    rw [show sm (sx G D (gMa G D x)) (j + 1) = sm (sx G D (gMa G D x)) j + sx G D (gMa G D x) j from rfl]
    rw [sx_d G D _ j]
    rcases cho_n G D j (-1) with e | ⟨i, hi, e, _⟩
    · rw [if_pos e, if_pos e, Int32.add_zero]
    · rw [e, if_neg (nn_m1 (by omega)), if_neg (nn_m1 (by omega))]
      simp (disch := omega) only [ck_n, nn_c, d, v, gMa, bi, cp_s]
      by_cases q : (x >>> (nn i &&& 31)) &&& 1 = 1
      · rw [if_pos q, if_pos q]
      · rw [if_neg q, if_neg q, Int32.mul_zero, Int32.add_zero]
  · simp only [m_Standing_marginOf_4]
    simp (disch := omega) only [v, eS, nn_le]
    rw [if_pos (by omega)]
    rfl

/-! b04: sets of shops as bits -/
def cn (p : Nat → Bool) : Nat → Nat
  | 0 => 0
  | j + 1 => cn p j + (if p j then 1 else 0)
def mb (p : Nat → Bool) : Nat → Nat
  | 0 => 0
  | j + 1 => mb p j + (if p j then 2 ^ j else 0)
def pcn (m : Nat) : Nat → Nat
  | 0 => 0
  | k + 1 => pcn m k + (if m.testBit k then 1 else 0)
def pc (m : Nat) : Nat := pcn m 6
def ow (D : gx_S) (o k : Nat) : Bool := decide (D 2 k = nn o)
/-- the shops of an owner among the first j; all of them -/
def cu (D : gx_S) (o : Nat) : Nat → Nat := cn (ow D o)
def cnt (G D : gx_S) (o : Nat) : Nat := cu D o (nP G)
theorem mb_lt (p : Nat → Bool) : ∀ n, mb p n < 2 ^ n
  | 0 => by show 0 < 1; decide
  | n + 1 => by
    have := mb_lt p n
    show mb p n + (if p n then 2 ^ n else 0) < 2 ^ (n + 1)
    rw [Nat.pow_succ]
    split <;> omega
theorem mb_64 (p : Nat → Bool) {n : Nat} (h : n ≤ 6) : mb p n < 64 := Nat.lt_of_lt_of_le (mb_lt p n) (Nat.pow_le_pow_right (by decide) h)
theorem cn_le (p : Nat → Bool) : ∀ n, cn p n ≤ n
  | 0 => Nat.le_refl _
  | n + 1 => by
    have := cn_le p n
    show cn p n + (if p n then 1 else 0) ≤ n + 1
    split <;> omega
theorem cn_mono (p : Nat → Bool) {m : Nat} : ∀ {n : Nat}, m ≤ n → cn p m ≤ cn p n
  | 0, h => by rw [Nat.le_zero.mp h]; exact Nat.le_refl _
  | n + 1, h => by
    rcases Nat.lt_or_ge m (n + 1) with q | q
    · have := cn_mono p (m := m) (n := n) (by omega)
      show cn p m ≤ cn p n + (if p n then 1 else 0)
      omega
    · rw [show m = n + 1 by omega]; exact Nat.le_refl _
theorem cn_lt (p : Nat → Bool) {m n : Nat} (h : m < n) (hp : p m = true) : cn p m < cn p n := by
  have := cn_mono p (m := m + 1) (n := n) h
  have e : cn p (m + 1) = cn p m + 1 := by show cn p m + (if p m then 1 else 0) = _; rw [if_pos hp]
  omega
/-- each number below the count is the count at some member -/
theorem cn_at (p : Nat → Bool) {i : Nat} : ∀ {n : Nat}, i < cn p n → ∃ k, k < n ∧ p k = true ∧ cn p k = i
  | 0, h => absurd h (by simp [cn])
  | n + 1, h => by
    have e : cn p (n + 1) = cn p n + (if p n then 1 else 0) := rfl
    rcases Nat.lt_or_ge i (cn p n) with q | q
    · obtain ⟨k, h1, h2, h3⟩ := cn_at p q
      exact ⟨k, by omega, h2, h3⟩
    · by_cases hp : p n = true
      · rw [if_pos hp] at e
        exact ⟨n, by omega, hp, by omega⟩
      · rw [if_neg hp] at e
        omega
theorem cn_inj (p : Nat → Bool) {k k' : Nat} (h : p k = true) (h' : p k' = true) (e : cn p k = cn p k') : k = k' := by
  rcases Nat.lt_trichotomy k k' with q | q | q
  · have := cn_lt p q h; omega
  · exact q
  · have := cn_lt p q h'; omega
theorem fb_pc : ∀ m, m < 64 → m_Integer_bitCount (nn m) (fun _ _ => 0) = some (nn (pc m)) := by decide +kernel
theorem fb_ones : ∀ m, m < 64 → n_ones (nn m) (fun _ _ => 0) = some (nn (pc m)) := by decide +kernel
theorem fb_or : ∀ n, n < 6 → ∀ m, m < 64 → m < 2 ^ n → nn m ||| ((1 : Int32) <<< (nn n &&& 31)) = nn (m + 2 ^ n) := by decide +kernel
theorem fb_1 : ∀ n, n < 6 → ((1 : Int32) <<< (nn n &&& 31)) = nn (2 ^ n) := by decide +kernel
theorem fb_bi : ∀ m, m < 64 → ∀ k, k < 6 → bi (nn m) k = if m.testBit k then 1 else 0 := by decide +kernel
theorem fb_m1 : ∀ k, k < 6 → bi (-1) k = 1 := by decide +kernel
theorem fb_tb : ∀ n, n < 6 → ∀ m, m < 64 → m < 2 ^ n → ∀ k, k < 6 → (m + 2 ^ n).testBit k = (m.testBit k || k == n) := by decide +kernel
theorem fb_pc1 : ∀ n, n < 6 → ∀ m, m < 64 → m < 2 ^ n → pc (m + 2 ^ n) = pc m + 1 := by decide +kernel
theorem x_bitCount {m : Nat} (h : m < 64) (S : gx_S) : m_Integer_bitCount (nn m) S = some (nn (pc m)) := fb_pc m h
theorem u_ones {m : Nat} (h : m < 64) (S : gx_S) : n_ones (nn m) S = some (nn (pc m)) := fb_ones m h
theorem mb_or (p : Nat → Bool) {n : Nat} (h : n < 6) (hp : p n = true) : nn (mb p n) ||| ((1 : Int32) <<< (nn n &&& 31)) = nn (mb p (n + 1)) := by
  rw [fb_or n h _ (mb_64 p (by omega)) (mb_lt p n)]
  show _ = nn (mb p n + (if p n then 2 ^ n else 0))
  rw [if_pos hp]
theorem mb_no (p : Nat → Bool) {n : Nat} (hp : ¬ p n = true) : mb p (n + 1) = mb p n := by
  show mb p n + (if p n then 2 ^ n else 0) = _
  rw [if_neg hp]; rfl
theorem pc_mb (p : Nat → Bool) : ∀ {n : Nat}, n ≤ 6 → pc (mb p n) = cn p n
  | 0, _ => by show pc 0 = 0; decide
  | n + 1, h => by
    have ih := pc_mb p (n := n) (by omega)
    by_cases hp : p n = true
    · show pc (mb p n + (if p n then 2 ^ n else 0)) = cn p n + (if p n then 1 else 0)
      rw [if_pos hp, if_pos hp, fb_pc1 n (by omega) _ (mb_64 p (by omega)) (mb_lt p n), ih]
    · rw [mb_no p hp, ih]
      show _ = cn p n + (if p n then 1 else 0)
      rw [if_neg hp]; rfl
theorem tb_mb (p : Nat → Bool) {k : Nat} (hk : k < 6) : ∀ {n : Nat}, n ≤ 6 → (mb p n).testBit k = (p k && decide (k < n))
  | 0, _ => by simp [mb]
  | n + 1, h => by
    have ih := tb_mb p hk (n := n) (by omega)
    by_cases hp : p n = true
    · show (mb p n + (if p n then 2 ^ n else 0)).testBit k = _
      rw [if_pos hp, fb_tb n (by omega) _ (mb_64 p (by omega)) (mb_lt p n) k hk, ih]
      by_cases e : k = n
      · subst e; simp [hp]
      · have : (k == n) = false := by simp [e]
        rw [this, Bool.or_false]
        congr 1
        exact decide_eq_decide.mpr ⟨fun _ => by omega, fun _ => by omega⟩
    · rw [mb_no p hp, ih]
      by_cases e : k = n
      · subst e; simp [hp]
      · congr 1
        exact decide_eq_decide.mpr ⟨fun _ => by omega, fun _ => by omega⟩
theorem x_setOf {r : Nat} {G D S : gx_S} (h : pX r G D S) (o : Nat) : m_Standing_setOf r (nn o) S = some (nn (mb (ow D o) (nP G))) := by
  have v := h.2.2.1.1
  have d : ∀ i j, 1 ≤ i → i ≤ 3 → j < 6 → S (21 + 4 * r + i) j = D i j := h.2.2.2
  obtain ⟨eP, hP⟩ := wG_P h.1
  unfold m_Standing_setOf
  refine lp_for (nP G) (fun j => (nn (mb (ow D o) j), nn j)) (fun j k hj => ?_) (fun k => ?_) 0 5000 (by omega) (by omega)
  · simp only [m_Standing_setOf_4, m_Standing_setOf_31]
    simp (disch := omega) only [v, d, eP, nn_le, nn_c, ck_n, nn_s]
    rw [if_neg (by omega)]
    by_cases q : D 2 j = nn o
    · rw [if_pos q, mb_or _ (by omega) (by simp [ow, q])]
    · rw [if_neg q, mb_no _ (by simp [ow, q])]
  · simp only [m_Standing_setOf_4]
    simp (disch := omega) only [v, eP, nn_le]
    rw [if_pos (by omega)]
theorem x_shopsOf {r : Nat} {G D S : gx_S} (h : pX r G D S) (o : Nat) : m_Standing_shopsOf r (nn o) S = some (nn (cnt G D o)) := by
  have hP := (wG_P h.1).2
  unfold m_Standing_shopsOf
  rw [x_setOf h o, cp_s, x_bitCount (mb_64 _ hP), cp_s, pc_mb _ hP]
  rfl
theorem x_openShops {r : Nat} {G D S : gx_S} (h : pX r G D S) : m_Standing_openShops r S = some (nn (mb (opn G D) (nP G))) := by
  have v := h.2.2.1.1
  obtain ⟨eP, hP⟩ := wG_P h.1
  unfold m_Standing_openShops
  refine lp_for (nP G) (fun j => (nn (mb (opn G D) j), nn j)) (fun j k hj => ?_) (fun k => ?_) 0 5000 (by omega) (by omega)
  · simp only [m_Standing_openShops_4, m_Standing_openShops_29]
    simp (disch := omega) only [v, eP, nn_le, x_isOpen h (k := j) (by omega), cp_s, nn_s, ib_0]
    rw [if_neg (by omega)]
    by_cases q : opn G D j = true
    · rw [if_neg (by simp [q]), mb_or _ (by omega) q]
    · rw [if_pos (by simpa using q), mb_no _ q]
  · simp only [m_Standing_openShops_4]
    simp (disch := omega) only [v, eP, nn_le]
    rw [if_pos (by omega)]
/-- the open shop nearest to shop i that is not in the set m -/
def nea (G D : gx_S) (i m n : Nat) : Int32 × Int32 := chN (fun k => ab (G 4 k - G 4 i)) (fun k => opn G D k && !m.testBit k) 98 n
theorem x_nearestOpen {r : Nat} {G D S : gx_S} (h : pX r G D S) {i m : Nat} (hi : i < 6) (hm : m < 64) : m_Standing_nearestOpen r (nn i) (nn m) S = some (nea G D i m (nP G)).1 := by
  have v := h.2.2.1.1
  obtain ⟨eP, hP⟩ := wG_P h.1
  unfold m_Standing_nearestOpen
  refine lp_for (nP G) (fun j => ((nea G D i m j).1, (nea G D i m j).2, nn j)) (fun j k hj => ?_) (fun k => ?_) 0 5000 (by omega) (by omega)
  · simp only [m_Standing_nearestOpen_9, m_Standing_nearestOpen_78]
    have hb := fb_bi m hm j (by omega)
    unfold bi at hb
    simp (disch := omega) only [v, eP, nn_le, nn_c, ck_n, x_isOpen h (k := j) (by omega), cp_s, nn_s, ib_0, hb, ab_d]
    rw [if_neg (by omega)]
    rw [show nea G D i m (j + 1) = if ab (G 4 j - G 4 i) < (nea G D i m j).2 ∧ (opn G D j && !m.testBit j) = true then (nn j, ab (G 4 j - G 4 i)) else nea G D i m j from rfl]
    cases hb2 : m.testBit j with
    | true => rw [if_neg (by simp), if_neg (by simp)]
    | false =>
      rw [if_pos (by simp)]
      cases ho : opn G D j with
      | false => rw [if_pos rfl, if_neg (by simp)]
      | true =>
        rw [if_neg (by simp)]
        by_cases a : (nea G D i m j).2 ≤ ab (G 4 j - G 4 i)
        · rw [if_pos a, if_neg (by rintro ⟨q, _⟩; lia)]
        · rw [if_neg a, if_pos ⟨by lia, by simp⟩]
  · simp only [m_Standing_nearestOpen_9]
    simp (disch := omega) only [v, eP, nn_le]
    rw [if_pos (by omega)]

/-! b05: the class's standings change; the list of an owner's shops -/
theorem gx_st_eq (S : gx_S) (q j : Nat) (x : Int32) : gx_st S q j x q j = x := by simp [gx_st, va_up, upd]
theorem gx_st_q (S : gx_S) {q q' : Nat} (j j' : Nat) (x : Int32) (h : q' ≠ q) : gx_st S q j x q' j' = S q' j' := by simp [gx_st, va_up, h]
theorem gx_st_j (S : gx_S) (q : Nat) {j j' : Nat} (x : Int32) (h : j' ≠ j) : gx_st S q j x q j' = S q j' := by simp [gx_st, va_up, upd, h]
theorem nar_b {x : Int32} (h : x = 0 ∨ x = 1) : vp_nar .boolean x = x := by
  rcases h with rfl | rfl <;> decide
/-- what a standing keeps -/
def wD (G D : gx_S) : Prop := (∀ j, j < 6 → bw (D 1 j) 0 9 ∧ bw (D 2 j) 0 5 ∧ (D 3 j = 0 ∨ D 3 j = 1 ∧ G 2 j = 4)) ∧ (∀ k, k < nP G → wh D k < nO G) ∧ ∀ o, o < 6 → cnt G D o ≤ 3
theorem wD_0 {G D : gx_S} (h : wD G D) : w0 D := fun j hj => (h.1 j hj).2.1
theorem wD_1 {G D : gx_S} (h : wD G D) {j : Nat} (hj : j < 6) : D 3 j = 0 ∨ D 3 j = 1 := by
  rcases (h.1 j hj).2.2 with e | e
  · exact Or.inl e
  · exact Or.inr e.1
/-- b's shops are a's -/
def gv (G D : gx_S) (a b : Nat) : gx_S := fun i j => if i = 2 ∧ j < nP G ∧ D 2 j = nn b then nn a else D i j
/-- all but a standing's rows are as they were -/
def fD (r : Nat) (S S' : gx_S) : Prop := ∀ q j, (q < 22 + 4 * r ∨ 24 + 4 * r < q) → S' q j = S q j
/-- all but Bests' own are as they were -/
def fB (S S' : gx_S) : Prop := ∀ q j, (q < 41 ∨ 62 < q) → S' q j = S q j
theorem fB_t {S T U : gx_S} (h : fB S T) (h' : fB T U) : fB S U := fun q j hq => (h' q j hq).trans (h q j hq)
theorem fB_r (S : gx_S) : fB S S := fun _ _ _ => rfl
theorem fB_st {S T : gx_S} {q j : Nat} {x : Int32} (h : fB S T) (h1 : 41 ≤ q) (h2 : q ≤ 62) : fB S (gx_st T q j x) := fun q' j' hq => by
  rw [gx_st_q _ _ _ _ (by omega)]
  exact h q' j' hq
theorem vG_f {G S T : gx_S} (h : vG G S) (hS : nS G ≤ 8) (f : ∀ q j, q < 21 → T q j = S q j) : vG G T := by
  refine ⟨fun q j h1 h2 => ?_, fun s k h1 h2 => ?_⟩
  · rw [f _ _ (by omega)]; exact h.1 q j h1 h2
  · rw [f _ _ (by omega)]; exact h.2 s k h1 h2
theorem vD_f {r : Nat} {D S T : gx_S} (h : vD r D S) (f : ∀ q j, 22 + 4 * r ≤ q → q ≤ 24 + 4 * r → T q j = S q j) : vD r D T := fun i j h1 h2 h3 => by
  rw [f _ _ (by omega) (by omega)]; exact h i j h1 h2 h3
theorem pX_f {r : Nat} {G D S T : gx_S} (h : pX r G D S) (hr : r < 5) (f : fB S T) : pX r G D T := ⟨h.1, h.2.1, vG_f h.2.2.1 (wG_S h.1).2 (fun q j hq => f q j (by omega)), vD_f h.2.2.2 (fun q j h1 h2 => f q j (by omega))⟩
theorem x_become {r r1 : Nat} {G D S : gx_S} (hne : r ≠ r1) (hw : wD G D) (hd : vD r1 D S) : gt (m_Standing_become r r1 S) fun T => fD r S T ∧ vD r D T := by
  unfold m_Standing_become
  refine gt_for 6 (fun j t => t.1 = nn j ∧ fD r S t.2 ∧ ∀ i, i < j → t.2 (21 + 4 * r + 1) i = D 1 i ∧ t.2 (21 + 4 * r + 2) i = D 2 i) ?_ ?_ 0 5000 _ (by omega) ⟨rfl, fun _ _ _ => rfl, fun i h => absurd h (by omega)⟩ (by omega)
  · rintro j ⟨x, T⟩ k hj ⟨e, f, g⟩ hk
    subst e
    simp only at f g
    simp only [m_Standing_become_2]
    simp (disch := omega) only [show (6 : Int32) = nn 6 from rfl, nn_le, nn_c, ck_n, let_s, nn_s]
    rw [if_neg (by omega)]
    refine hk _ ⟨rfl, fun q i hq => ?_, fun i hi => ?_⟩
    · simp (disch := omega) only [gx_st_q]
      exact f q i hq
    · have f1 := f (21 + 4 * r1 + 1)
      have f2 := f (21 + 4 * r1 + 2)
      rcases Nat.lt_or_ge i j with q | q
      · simp (disch := omega) only [gx_st_q, gx_st_j]
        exact g i q
      · have : i = j := by omega
        subst this
        simp (disch := omega) only [gx_st_q, gx_st_eq, f1, f2]
        exact ⟨hd 1 i (by omega) (by omega) hj, hd 2 i (by omega) (by omega) hj⟩
  · rintro ⟨x, T⟩ k ⟨e, f, g⟩
    subst e
    simp only at f g
    simp only [m_Standing_become_2]
    rw [if_pos (by decide)]
    refine gt_for 6 (fun j t => t.1 = nn j ∧ fD r S t.2 ∧ (∀ i, i < 6 → t.2 (21 + 4 * r + 1) i = D 1 i ∧ t.2 (21 + 4 * r + 2) i = D 2 i) ∧ ∀ i, i < j → t.2 (21 + 4 * r + 3) i = D 3 i) ?_ ?_ 0 5000 _ (by omega) ⟨rfl, f, g, fun i h => absurd h (by omega)⟩ (by omega)
    · rintro j ⟨x, T⟩ k hj ⟨e, f, g, g3⟩ hk
      subst e
      simp only at f g g3
      simp only [m_Standing_become_40]
      have e3 : T (21 + 4 * r1 + 3) j = D 3 j := by
        rw [f _ _ (by omega)]; exact hd 3 j (by omega) (by omega) hj
      simp (disch := omega) only [show (6 : Int32) = nn 6 from rfl, nn_le, nn_c, ck_n, let_s, nn_s, e3]
      rw [if_neg (by omega), nar_b (wD_1 hw hj)]
      refine hk _ ⟨rfl, fun q i hq => ?_, fun i hi => ?_, fun i hi => ?_⟩
      · simp (disch := omega) only [gx_st_q]
        exact f q i hq
      · simp (disch := omega) only [gx_st_q]
        exact g i hi
      · rcases Nat.lt_or_ge i j with q | q
        · simp (disch := omega) only [gx_st_j]
          exact g3 i q
        · have : i = j := by omega
          subst this
          simp only [gx_st_eq]
    · rintro ⟨x, T⟩ k ⟨e, f, g, g3⟩
      subst e
      simp only at f g g3
      simp only [m_Standing_become_40]
      rw [if_pos (by decide)]
      refine gt_some ⟨f, fun i j h1 h2 h3 => ?_⟩
      match i, h1, h2 with
      | 1, _, _ => exact (g j h3).1
      | 2, _, _ => exact (g j h3).2
      | 3, _, _ => exact g3 j h3
theorem x_give {r : Nat} {G D S : gx_S} (h : pX r G D S) (hr : r < 5) (a b : Nat) : gt (m_Standing_give r (nn b) (nn a) S) fun T => fD r S T ∧ vD r (gv G D a b) T := by
  have v := h.2.2.1.1
  have d : ∀ i j, 1 ≤ i → i ≤ 3 → j < 6 → S (21 + 4 * r + i) j = D i j := h.2.2.2
  obtain ⟨eP, hP⟩ := wG_P h.1
  unfold m_Standing_give
  refine gt_for (nP G) (fun j t => t.1 = nn j ∧ fD r S t.2 ∧ ∀ i k, 1 ≤ i → i ≤ 3 → k < 6 → t.2 (21 + 4 * r + i) k = if k < j then gv G D a b i k else D i k) ?_ ?_ 0 5000 _ (by omega) ⟨rfl, fun _ _ _ => rfl, fun i k h1 h2 h3 => by rw [if_neg (by omega)]; exact d i k h1 h2 h3⟩ (by omega)
  · rintro j ⟨x, T⟩ k hj ⟨e, f, g⟩ hk
    subst e
    simp only at f g
    simp only [m_Standing_give_2, m_Standing_give_30]
    have e1 : T 1 1 = nn (nP G) := by rw [f _ _ (by omega), v _ _ (by omega) (by omega), eP]
    have e2 : T (21 + 4 * r + 2) j = D 2 j := by rw [g 2 j (by omega) (by omega) (by omega), if_neg (by omega)]
    simp (disch := omega) only [e1, nn_le, nn_c, ck_n, let_s, nn_s, e2]
    rw [if_neg (by omega)]
    by_cases q : D 2 j = nn b
    · rw [if_pos q]
      refine hk _ ⟨rfl, fun q i hq => ?_, fun i m h1 h2 h3 => ?_⟩
      · simp (disch := omega) only [gx_st_q]
        exact f q i hq
      · simp only
        by_cases z : i = 2 ∧ m = j
        · obtain ⟨rfl, rfl⟩ := z
          rw [gx_st_eq, if_pos (by omega)]
          simp [gv, hj, q]
        · have : gx_st T (21 + 4 * r + 2) j (nn a) (21 + 4 * r + i) m = T (21 + 4 * r + i) m := by
            by_cases y : i = 2
            · subst y
              exact gx_st_j _ _ _ (by omega)
            · exact gx_st_q _ _ _ _ (by omega)
          rw [this, g i m h1 h2 h3]
          rcases Nat.lt_trichotomy m j with y | y | y
          · rw [if_pos y, if_pos (by omega)]
          · subst y
            rw [if_neg (by omega), if_pos (by omega)]
            have : ¬ i = 2 := fun y => z ⟨y, rfl⟩
            simp [gv, this]
          · rw [if_neg (by omega), if_neg (by omega)]
    · rw [if_neg q]
      refine hk _ ⟨rfl, f, fun i m h1 h2 h3 => ?_⟩
      simp only
      rw [g i m h1 h2 h3]
      rcases Nat.lt_trichotomy m j with y | y | y
      · rw [if_pos y, if_pos (by omega)]
      · subst y
        rw [if_neg (by omega), if_pos (by omega)]
        have : ¬ (i = 2 ∧ m < nP G ∧ D 2 m = nn b) := fun y => q y.2.2
        simp [gv, this]
      · rw [if_neg (by omega), if_neg (by omega)]
  · rintro ⟨x, T⟩ k ⟨e, f, g⟩
    subst e
    simp only at f g
    simp only [m_Standing_give_2]
    have e1 : T 1 1 = nn (nP G) := by rw [f _ _ (by omega), v _ _ (by omega) (by omega), eP]
    simp (disch := omega) only [e1, nn_le]
    rw [if_pos (by omega)]
    refine gt_some ⟨f, fun i j h1 h2 h3 => ?_⟩
    rw [g i j h1 h2 h3]
    by_cases y : j < nP G
    · rw [if_pos y]
    · rw [if_neg y]
      have : ¬ (i = 2 ∧ j < nP G ∧ D 2 j = nn b) := fun z => y z.2.1
      simp [gv, this]
/-- what Bests keeps of an owner's shops -/
def oL (G D : gx_S) (o : Nat) (S : gx_S) : Prop := S 41 5 = nn (cnt G D o) ∧ ∀ k, k < nP G → ow D o k = true → S 42 (cu D o k) = nn k ∧ S 43 (cu D o k) = co G o k
theorem x_listShops {r : Nat} {G D S : gx_S} (h : pX r G D S) (hw : wD G D) (hr : r < 5) {o : Nat} (ho : o < 6) : gt (m_Bests_listShops r (nn o) S) fun T => fB S T ∧ oL G D o T ∧ (∀ k, k < nP G → ow D o k = true → T 45 (cu D o k) = D 1 k) ∧ ∀ j, j ≠ 5 → T 41 j = S 41 j := by
  have v := h.2.2.1.1
  obtain ⟨eP, hP⟩ := wG_P h.1
  have h3 := hw.2.2 o ho
  unfold cnt at h3
  unfold m_Bests_listShops
  refine gt_let ?_
  refine gt_for (nP G) (fun j t => t.1 = nn j ∧ fB S t.2 ∧ t.2 41 5 = nn (cu D o j) ∧ (∀ k, k < j → ow D o k = true → t.2 42 (cu D o k) = nn k ∧ t.2 43 (cu D o k) = co G o k ∧ t.2 45 (cu D o k) = D 1 k) ∧ ∀ j, j ≠ 5 → t.2 41 j = S 41 j) ?_ ?_ 0 5000 _ (by omega) ?_ (by omega)
  · rintro j ⟨x, T⟩ k hj ⟨e, f, g1, g2, g3⟩ hk
    subst e
    simp only at f g1 g2 g3
    simp only [m_Bests_listShops_7, m_Bests_listShops_89]
    have p := pX_f h hr f
    have d : ∀ i j, 1 ≤ i → i ≤ 3 → j < 6 → T (21 + 4 * r + i) j = D i j := p.2.2.2
    have e1 : T 1 1 = nn (nP G) := by rw [p.2.2.1.1 _ _ (by omega) (by omega), eP]
    have hm := cn_mono (ow D o) (m := j) (n := nP G) (by omega)
    have hm' : cu D o j ≤ 3 := Nat.le_trans hm h3
    simp (disch := omega) only [e1, show (3 : Int32) = nn 3 from rfl, g1, nn_le, nn_c, d, nn_s]
    rw [if_neg (by omega)]
    by_cases a : 3 ≤ cu D o j
    · rw [if_pos a]
      have hno : ∀ k, k < nP G → ow D o k = true → k < j := fun k hk ho => by
        rcases Nat.lt_or_ge k j with q | q
        · exact q
        · have := cn_mono (ow D o) q
          have := cn_lt (ow D o) hk ho
          unfold cu at *
          omega
      have hc : cnt G D o = cu D o j := by
        show cu D o (nP G) = _
        unfold cu at *
        omega
      exact gt_some ⟨f, ⟨by rw [g1, hc], fun k h1 h2 => ⟨(g2 k (hno k h1 h2) h2).1, (g2 k (hno k h1 h2) h2).2.1⟩⟩, fun k h1 h2 => (g2 k (hno k h1 h2) h2).2.2, g3⟩
    · rw [if_neg a]
      simp (disch := omega) only [ck_n]
      by_cases q : D 2 j = nn o
      · rw [if_pos q]
        have hq : ow D o j = true := by simp [ow, q]
        have hc : cu D o (j + 1) = cu D o j + 1 := by
          show cn (ow D o) j + (if ow D o j then 1 else 0) = _
          rw [if_pos hq]; rfl
        have p2 : vG G (gx_st T 42 (cu D o j) (nn j)) := vG_f p.2.2.1 (wG_S h.1).2 (fun q j hq => gx_st_q _ _ _ _ (by omega))
        simp (disch := omega) only [let_s, x_costTo p2 ho (k := j), cp_s, gx_st_q, gx_st_eq, d, g1, nn_c, nn_s, ck_n]
        refine hk _ ⟨rfl, ?_, ?_, fun i hi hi2 => ?_, fun i hi => ?_⟩
        · exact fB_st (fB_st (fB_st (fB_st f (by omega) (by omega)) (by omega) (by omega)) (by omega) (by omega)) (by omega) (by omega)
        · simp only [gx_st_eq, hc]
        · rcases Nat.lt_or_ge i j with y | y
          · have := cn_lt (ow D o) y hi2
            have : cu D o i < cu D o j := this
            simp (disch := omega) only [gx_st_q, gx_st_j]
            exact g2 i y hi2
          · have : i = j := by omega
            subst this
            simp (disch := omega) only [gx_st_q, gx_st_eq]
            exact ⟨trivial, trivial, trivial⟩
        · simp (disch := omega) only [gx_st_q, gx_st_j]
          exact g3 i hi
      · rw [if_neg q]
        have hq : ¬ ow D o j = true := by simp [ow, q]
        have hc : cu D o (j + 1) = cu D o j := by
          show cn (ow D o) j + (if ow D o j then 1 else 0) = _
          rw [if_neg hq]; rfl
        refine hk _ ⟨rfl, f, by rw [hc]; exact g1, fun i hi hi2 => ?_, g3⟩
        rcases Nat.lt_or_ge i j with y | y
        · exact g2 i y hi2
        · have : i = j := by omega
          subst this
          exact absurd hi2 hq
  · rintro ⟨x, T⟩ k ⟨e, f, g1, g2, g3⟩
    subst e
    simp only at f g1 g2 g3
    simp only [m_Bests_listShops_7]
    have p := pX_f h hr f
    have e1 : T 1 1 = nn (nP G) := by rw [p.2.2.1.1 _ _ (by omega) (by omega), eP]
    simp (disch := omega) only [e1, nn_le]
    rw [if_pos (by omega)]
    exact gt_some ⟨f, ⟨g1, fun k h1 h2 => ⟨(g2 k h1 h2).1, (g2 k h1 h2).2.1⟩⟩, fun k h1 h2 => (g2 k h1 h2).2.2, g3⟩
  · refine ⟨rfl, fB_st (fB_r S) (by omega) (by omega), gx_st_eq S 41 5 0, fun k hk => absurd hk (by omega), fun j hj => ?_⟩
    simp (disch := omega) only [gx_st_j]

/-! b06: levels: the first own shops priced -/
theorem z_c : (0 : Int32).toNatClampNeg = 0 := rfl
theorem bw_mul : ∀ i, i < 6 → ∀ j, j < 10 → bw (nn i * nn j) 0 45 := by unfold bw; decide +kernel
theorem ab_n : ∀ i, i < 10 → ∀ j, j < 10 → ab (nn i - nn j) = nn (if j ≤ i then i - j else j - i) := by decide +kernel
theorem bes_b {G : gx_S} (h : wG G) (s k : Nat) : bw (bes G s k) (-9) 45 := by
  obtain ⟨h1, h2, h3, h4, h5, h6⟩ := h.2.2.2 s
  obtain ⟨a, ha⟩ := bw_n (n := 9) (by decide) h1
  obtain ⟨b, hb⟩ := bw_n (n := 9) (by decide) (h.2.2.1 k).1
  obtain ⟨c, hc⟩ := bw_n (n := 5) (by decide) h3
  unfold bes
  rw [a, b, c, ab_n _ (by omega) _ (by omega)]
  have hm := bw_mul (G 8 s).toNatClampNeg (by omega) (if (G 4 k).toNatClampNeg ≤ (G 6 s).toNatClampNeg then (G 6 s).toNatClampNeg - (G 4 k).toNatClampNeg else (G 4 k).toNatClampNeg - (G 6 s).toNatClampNeg) (by split <;> omega)
  have h6a := h6.1
  have h6b := h6.2
  have hma := hm.1
  have hmb := hm.2
  constructor
  · split <;> lia
  · split <;> lia
def ist (G D : gx_S) (o : Nat) (τ : Nat → Int32) (s k : Nat) : Int32 := (if ow D o k then τ (cu D o k) else D 1 k) + bes G s k
def lM (G D : gx_S) (o l k : Nat) : Prop := if ow D o k = true then cu D o k < l else opn G D k = true
def er (G D : gx_S) (o : Nat) (τ : Nat → Int32) (c : Int32) : Int32 := if c = -1 then 0 else if ow D o c.toNatClampNeg = true then τ (cu D o c.toNatClampNeg) - co G o c.toNatClampNeg else 0
/-- what level l holds: the choice of each sort with the first l own shops priced by τ -/
def lv (G D : gx_S) (o : Nat) (τ : Nat → Int32) (l : Nat) (S : gx_S) : Prop := ∀ s, s < nS G → isC (lM G D o l) (ist G D o τ s) (G 9 s) (nP G) (S (47 + l) s) (S (52 + l) s) ∧ S (57 + l) s = er G D o τ (S (52 + l) s)
def opo (G D : gx_S) (o k : Nat) : Bool := !ow D o k && opn G D k
def ch0 (G D : gx_S) (o s j : Nat) : Int32 × Int32 := chN (isv G D s) (opo G D o) (G 9 s) j
theorem x_layOthers {r : Nat} {G D S : gx_S} (h : pX r G D S) (hr : r < 5) (o : Nat) : gt (m_Bests_layOthers r (nn o) S) fun T => (∀ q j, q ≠ 47 → q ≠ 52 → q ≠ 57 → T q j = S q j) ∧ ∀ s, s < nS G → T 47 s = (ch0 G D o s (nP G)).2 ∧ T 52 s = (ch0 G D o s (nP G)).1 ∧ T 57 s = 0 := by
  have v := h.2.2.1.1
  obtain ⟨eP, hP⟩ := wG_P h.1
  obtain ⟨eS, hS⟩ := wG_S h.1
  unfold m_Bests_layOthers
  refine gt_for (nS G) (fun s t => t.1 = nn s ∧ (∀ q j, q ≠ 47 → q ≠ 52 → q ≠ 57 → t.2 q j = S q j) ∧ ∀ i, i < s → t.2 47 i = (ch0 G D o i (nP G)).2 ∧ t.2 52 i = (ch0 G D o i (nP G)).1 ∧ t.2 57 i = 0) ?_ ?_ 0 5000 _ (by omega) ⟨rfl, fun _ _ _ _ _ => rfl, fun i hi => absurd hi (by omega)⟩ (by omega)
  · rintro s ⟨x, T⟩ k2 hs ⟨e, f, g⟩ hk2
    subst e
    simp only at f g
    simp only [m_Bests_layOthers_2]
    have e1 : T 1 2 = nn (nS G) := by rw [f _ _ (by omega) (by omega) (by omega), v _ _ (by omega) (by omega), eS]
    have e2 : T 9 s = G 9 s := by rw [f _ _ (by omega) (by omega) (by omega), v _ _ (by omega) (by omega)]
    simp (disch := omega) only [e1, e2, nn_le, nn_c, ck_n, ck_0, z_c, let_s, nn_s, Nat.add_zero]
    rw [if_neg (by omega)]
    refine gt_for (nP G) (fun j t => t.1 = nn j ∧ (∀ q j, q ≠ 47 → q ≠ 52 → q ≠ 57 → t.2 q j = S q j) ∧ (∀ i, i < s → t.2 47 i = (ch0 G D o i (nP G)).2 ∧ t.2 52 i = (ch0 G D o i (nP G)).1 ∧ t.2 57 i = 0) ∧ t.2 47 s = (ch0 G D o s j).2 ∧ t.2 52 s = (ch0 G D o s j).1 ∧ t.2 57 s = 0) ?_ ?_ 0 5000 _ (by omega) ⟨rfl, fun q j h1 h2 h3 => ?_, fun i hi => ?_, ?_⟩ (by omega)
    · rintro j ⟨x, T⟩ k hj ⟨e, f, g, g1, g2, g3⟩ hk
      subst e
      simp only at f g g1 g2 g3
      simp only [m_Bests_layOthers_53, m_Bests_layOthers_127]
      have p : pX r G D T := ⟨h.1, h.2.1, vG_f h.2.2.1 hS (fun q j hq => f q j (by omega) (by omega) (by omega)), vD_f h.2.2.2 (fun q j h1 h2 => f q j (by omega) (by omega) (by omega))⟩
      have d : ∀ i j, 1 ≤ i → i ≤ 3 → j < 6 → T (21 + 4 * r + i) j = D i j := p.2.2.2
      have e1 : T 1 1 = nn (nP G) := by rw [p.2.2.1.1 _ _ (by omega) (by omega), eP]
      simp (disch := omega) only [e1, g1, nn_le, nn_c, ck_n, ck_0, z_c, let_s, nn_s, Nat.add_zero, x_whatIs p hs hj, cp_s, x_isOpen p (k := j) (by omega), ib_0, d]
      rw [if_neg (by omega)]
      have ec : ch0 G D o s (j + 1) = if isv G D s j < (ch0 G D o s j).2 ∧ opo G D o j = true then (nn j, isv G D s j) else ch0 G D o s j := rfl
      by_cases a : (ch0 G D o s j).2 ≤ isv G D s j
      · rw [if_pos a]
        rw [if_neg (by rintro ⟨q, _⟩; lia)] at ec
        exact hk _ ⟨rfl, f, g, by rw [ec]; exact ⟨g1, g2, g3⟩⟩
      · rw [if_neg a]
        by_cases b : D 2 j = nn o
        · rw [if_pos b]
          rw [if_neg (by rintro ⟨_, q⟩; simp [opo, ow, b] at q)] at ec
          exact hk _ ⟨rfl, f, g, by rw [ec]; exact ⟨g1, g2, g3⟩⟩
        · rw [if_neg b]
          by_cases c : opn G D j = false
          · rw [if_pos c]
            rw [if_neg (by rintro ⟨_, q⟩; simp [opo, c] at q)] at ec
            exact hk _ ⟨rfl, f, g, by rw [ec]; exact ⟨g1, g2, g3⟩⟩
          · rw [if_neg c]
            rw [if_pos ⟨by lia, by simp [opo, ow, b, c]⟩] at ec
            refine hk _ ⟨rfl, fun q i h1 h2 h3 => ?_, fun i hi => ?_, ?_⟩
            · simp (disch := omega) only [gx_st_q]
              exact f q i h1 h2 h3
            · simp (disch := omega) only [gx_st_q, gx_st_j]
              exact g i hi
            · simp (disch := omega) only [gx_st_q, gx_st_eq, ec]
              exact ⟨trivial, trivial, g3⟩
    · rintro ⟨x, T⟩ k ⟨e, f, g, g1, g2, g3⟩
      subst e
      simp only at f g g1 g2 g3
      simp only [m_Bests_layOthers_53]
      have e1 : T 1 1 = nn (nP G) := by rw [f _ _ (by omega) (by omega) (by omega), v _ _ (by omega) (by omega), eP]
      simp (disch := omega) only [e1, nn_le, nn_s]
      rw [if_pos (by omega)]
      refine hk2 _ ⟨rfl, f, fun i hi => ?_⟩
      rcases Nat.lt_or_ge i s with q | q
      · exact g i q
      · have : i = s := by omega
        subst this
        exact ⟨g1, g2, g3⟩
    · simp (disch := omega) only [gx_st_q]
      exact f q j h1 h2 h3
    · simp (disch := omega) only [gx_st_q, gx_st_j]
      exact g i hi
    · simp (disch := omega) only [gx_st_q, gx_st_eq]
      exact ⟨rfl, rfl, trivial⟩
  · rintro ⟨x, T⟩ k ⟨e, f, g⟩
    subst e
    simp only at f g
    simp only [m_Bests_layOthers_2]
    have e1 : T 1 2 = nn (nS G) := by rw [f _ _ (by omega) (by omega) (by omega), v _ _ (by omega) (by omega), eS]
    simp (disch := omega) only [e1, nn_le]
    rw [if_pos (by omega)]
    exact gt_some ⟨f, g⟩
theorem lv_0 {G D T : gx_S} {o : Nat} (hG : wG G) (g : ∀ s, s < nS G → T 47 s = (ch0 G D o s (nP G)).2 ∧ T 52 s = (ch0 G D o s (nP G)).1 ∧ T 57 s = 0) (τ : Nat → Int32) : lv G D o τ 0 T := by
  intro s hs
  obtain ⟨e1, e2, e3⟩ := g s hs
  have hP := (wG_P hG).2
  show isC _ _ _ _ (T 47 s) (T 52 s) ∧ T 57 s = er G D o τ (T 52 s)
  rw [e1, e2, e3]
  have c := chN_isC (isv G D s) (opo G D o) (G 9 s) (nP G)
  refine ⟨isC_cg c (fun j hj => ?_) (fun j hj hm => ?_), ?_⟩
  · unfold lM opo
    cases ow D o j <;> simp
  · unfold ist isv
    have : ow D o j = false := by
      unfold opo at hm
      cases hq : ow D o j
      · rfl
      · rw [hq] at hm; simp at hm
    rw [this]
    rfl
  · rcases c with ⟨a, _⟩ | ⟨i, hi, a, _, b, _⟩
    · show 0 = er G D o τ (chN (isv G D s) (opo G D o) (G 9 s) (nP G)).1
      rw [a]; rfl
    · show 0 = er G D o τ (chN (isv G D s) (opo G D o) (G 9 s) (nP G)).1
      rw [a]
      have : ow D o i = false := by
        unfold opo at b
        cases hq : ow D o i
        · rfl
        · rw [hq] at b; simp at b
      unfold er
      rw [if_neg (nn_m1 (by omega)), nn_c (by omega), if_neg (by simp [this])]
theorem isC_add {M M' : Nat → Prop} {is : Nat → Int32} {w : Int32} {n k : Nat} {l c : Int32} (hn : n < 2147483648) (h : isC M is w n l c) (hk : k < n) (hM : ∀ j, j < n → (M' j ↔ M j ∨ j = k)) (hno : ¬ M k) : isC M' is w n (if is k < l ∨ is k = l ∧ nn k < c then is k else l) (if is k < l ∨ is k = l ∧ nn k < c then nn k else c) := by
  have hk1 : ¬ nn k < -1 := by
    rw [Int32.lt_iff_toInt_lt, nn_i (by omega)]
    have : (-1 : Int32).toInt = -1 := by decide
    omega
  rcases h with ⟨e1, e2, a⟩ | ⟨i, h1, e1, e2, h2, h3, a⟩
  · by_cases q : is k < l ∨ is k = l ∧ nn k < c
    · rw [if_pos q, if_pos q]
      have q' : is k < w + 1 := by
        rcases q with q | q
        · rw [← e2]; exact q
        · rw [e1] at q; exact absurd q.2 hk1
      refine Or.inr ⟨k, hk, rfl, rfl, (hM k hk).mpr (Or.inr rfl), q', fun j hj hm => ?_⟩
      rcases (hM j hj).mp hm with y | y
      · have := a j hj y
        exact ⟨by lia, fun _ => by lia⟩
      · subst y
        exact ⟨Int32.le_refl _, fun q => absurd q (by omega)⟩
    · rw [if_neg q, if_neg q]
      refine Or.inl ⟨e1, e2, fun j hj hm => ?_⟩
      rcases (hM j hj).mp hm with y | y
      · exact a j hj y
      · subst y
        have : ¬ is j < l := fun z => q (Or.inl z)
        lia
  · have hik : i ≠ k := fun z => hno (z ▸ h2)
    by_cases q : is k < l ∨ is k = l ∧ nn k < c
    · rw [if_pos q, if_pos q]
      have q' : is k < is i ∨ is k = is i ∧ k < i := by
        rw [e2, e1, nn_lt (by omega) (by omega)] at q
        exact q
      refine Or.inr ⟨k, hk, rfl, rfl, (hM k hk).mpr (Or.inr rfl), by rcases q' with q | q <;> lia, fun j hj hm => ?_⟩
      rcases (hM j hj).mp hm with y | y
      · have b := a j hj y
        have b1 := b.1
        refine ⟨by rcases q' with q | q <;> lia, fun z => ?_⟩
        rcases q' with q | q
        · lia
        · have := b.2 (by omega)
          lia
      · subst y
        exact ⟨Int32.le_refl _, fun q => absurd q (by omega)⟩
    · rw [if_neg q, if_neg q]
      have q' : ¬ (is k < is i ∨ is k = is i ∧ k < i) := by
        rw [e2, e1, nn_lt (by omega) (by omega)] at q
        exact q
      refine Or.inr ⟨i, h1, e1, e2, (hM i h1).mpr (Or.inl h2), h3, fun j hj hm => ?_⟩
      rcases (hM j hj).mp hm with y | y
      · exact a j hj y
      · subst y
        have y1 : ¬ is j < is i := fun z => q' (Or.inl z)
        refine ⟨by lia, fun z => ?_⟩
        have y2 : ¬ is j = is i := fun y => q' (Or.inr ⟨y, z⟩)
        lia

/-! b07: a price put at a level; the best kept -/
theorem nn_b {k : Nat} {b : Nat} (h : k ≤ b) (hb : b < 2147483648) : bw (nn k) 0 (nn b) := ⟨by rw [nn_0, nn_le (by omega) (by omega)]; omega, by rw [nn_le (by omega) (by omega)]; exact h⟩
def tset (τ : Nat → Int32) (l : Nat) (x : Int32) : Nat → Int32 := fun i => if i = l then x else τ i
theorem ti_add {a b : Int32} (h1 : -2147483648 ≤ a.toInt + b.toInt) (h2 : a.toInt + b.toInt < 2147483648) : (a + b).toInt = a.toInt + b.toInt := by
  rw [Int32.toInt_add, Int.bmod_def]
  omega
theorem ti_sub {a b : Int32} (h1 : -2147483648 ≤ a.toInt - b.toInt) (h2 : a.toInt - b.toInt < 2147483648) : (a - b).toInt = a.toInt - b.toInt := by
  rw [Int32.toInt_sub, Int.bmod_def]
  omega
theorem bw_i {x a b : Int32} (h : bw x a b) : a.toInt ≤ x.toInt ∧ x.toInt ≤ b.toInt := ⟨Int32.le_iff_toInt_le.mp h.1, Int32.le_iff_toInt_le.mp h.2⟩
theorem hf_cmp (p b l c k : Int32) (hp : bw p 0 9) (hb : bw b (-9) 45) (hl : bw l (-9) 54) : ((if c ≤ k then l - b - 1 else l - b) < p) ↔ ¬ (p + b < l ∨ p + b = l ∧ k < c) := by
  obtain ⟨p1, p2⟩ := bw_i hp
  obtain ⟨b1, b2⟩ := bw_i hb
  obtain ⟨l1, l2⟩ := bw_i hl
  have c0 : (0 : Int32).toInt = 0 := by decide
  have c1 : (1 : Int32).toInt = 1 := by decide
  have c2 : (9 : Int32).toInt = 9 := by decide
  have c3 : (-9 : Int32).toInt = -9 := by decide
  have c4 : (45 : Int32).toInt = 45 := by decide
  have c5 : (54 : Int32).toInt = 54 := by decide
  rw [c0] at p1
  rw [c2] at p2
  rw [c3] at b1 l1
  rw [c4] at b2
  rw [c5] at l2
  have e1 : (p + b).toInt = p.toInt + b.toInt := ti_add (by omega) (by omega)
  have e2 : (l - b).toInt = l.toInt - b.toInt := ti_sub (by omega) (by omega)
  have e3 : (l - b - 1).toInt = l.toInt - b.toInt - 1 := by rw [ti_sub (by omega) (by omega), e2, c1]
  by_cases q : c ≤ k
  · rw [if_pos q]
    simp only [Int32.lt_iff_toInt_lt, Int32.le_iff_toInt_le, ← Int32.toInt_inj, e1, e3] at q ⊢
    omega
  · rw [if_neg q]
    simp only [Int32.lt_iff_toInt_lt, Int32.le_iff_toInt_le, ← Int32.toInt_inj, e1, e2] at q ⊢
    omega
theorem ist_b {G D : gx_S} {o : Nat} {τ : Nat → Int32} (hG : wG G) (hw : wD G D) (ht : ∀ i, bw (τ i) 0 9) (s : Nat) {k : Nat} (hk : k < 6) : bw (ist G D o τ s k) (-9) 54 := by
  obtain ⟨b1, b2⟩ := bes_b hG s k
  obtain ⟨t1, t2⟩ := ht (cu D o k)
  obtain ⟨d1, d2⟩ := (hw.1 k hk).1
  unfold ist
  constructor
  · split <;> lia
  · split <;> lia
theorem l_b {G D : gx_S} {o : Nat} {τ : Nat → Int32} (hG : wG G) (hw : wD G D) (ht : ∀ i, bw (τ i) 0 9) {s : Nat} {M : Nat → Prop} {l c : Int32} (h : isC M (ist G D o τ s) (G 9 s) (nP G) l c) : bw l (-9) 54 := by
  have hP := (wG_P hG).2
  obtain ⟨w1, w2⟩ := (hG.2.2.2 s).2.2.2.1
  rcases h with ⟨_, e, _⟩ | ⟨i, hi, _, e, _⟩
  · rw [e]
    constructor <;> lia
  · rw [e]; exact ist_b hG hw ht s (by omega)
theorem x_highestFor {G S : gx_S} (hG : wG G) (hv : vG G S) {l s k : Nat} (hl : l < 3) (hs : s < nS G) (hk : k < nP G) (e : S 42 l = nn k) : m_Bests_highestFor (nn l) (nn s) S = some (if S (52 + l) s ≤ nn k then S (47 + l) s - bes G s k - 1 else S (47 + l) s - bes G s k) := by
  have hP := (wG_P hG).2
  have hS := (wG_S hG).2
  have v2 := hv.2
  unfold m_Bests_highestFor
  simp (disch := omega) only [ck_n, nn_c, e, v2]
  split <;> rfl
theorem lM_1 {G D : gx_S} {o l k : Nat} (hk : ow D o k = true) (hc : cu D o k = l) (j : Nat) : lM G D o (l + 1) j ↔ lM G D o l j ∨ j = k := by
  unfold lM
  by_cases h : ow D o j = true
  · rw [if_pos h, if_pos h]
    constructor
    · intro q
      rcases Nat.lt_or_ge (cu D o j) l with y | y
      · exact Or.inl y
      · exact Or.inr (cn_inj (ow D o) h hk (by show cu D o j = cu D o k; omega))
    · rintro (q | q)
      · omega
      · subst q; omega
  · rw [if_neg h, if_neg h]
    constructor
    · exact Or.inl
    · rintro (q | q)
      · exact q
      · subst q; exact absurd hk h
theorem ist_1 {G D : gx_S} {o l : Nat} {τ : Nat → Int32} {x : Int32} {s j : Nat} (h : lM G D o l j) : ist G D o (tset τ l x) s j = ist G D o τ s j := by
  unfold ist tset
  by_cases hj : ow D o j = true
  · unfold lM at h
    rw [if_pos hj] at h
    rw [if_pos hj, if_pos hj, if_neg (by omega)]
  · rw [if_neg hj, if_neg hj]
theorem er_1 {G D : gx_S} {o l : Nat} {τ : Nat → Int32} {x : Int32} {is : Nat → Int32} {w y c : Int32} (hP : nP G ≤ 6) (h : isC (lM G D o l) is w (nP G) y c) : er G D o (tset τ l x) c = er G D o τ c := by
  rcases h with ⟨e, _⟩ | ⟨i, hi, e, _, hm, _⟩
  · rw [e]; rfl
  · unfold er tset
    rw [e, if_neg (nn_m1 (by omega)), if_neg (nn_m1 (by omega)), nn_c (by omega)]
    by_cases hj : ow D o i = true
    · unfold lM at hm
      rw [if_pos hj] at hm
      rw [if_pos hj, if_pos hj, if_neg (by omega)]
    · rw [if_neg hj, if_neg hj]
/-- whether a sort comes to shop k at price p from (l, c) -/
def cms (b p l c : Int32) (k : Nat) : Prop := p + b < l ∨ p + b = l ∧ nn k < c
theorem lv_1 {G D : gx_S} {o l k s : Nat} {τ : Nat → Int32} {p y c e : Int32} (hP : nP G ≤ 6) (hkn : k < nP G) (hk : ow D o k = true) (hc : cu D o k = l) (h : isC (lM G D o l) (ist G D o τ s) (G 9 s) (nP G) y c) (he : e = er G D o τ c) [Decidable (cms (bes G s k) p y c k)] :
    isC (lM G D o (l + 1)) (ist G D o (tset τ l p) s) (G 9 s) (nP G) (if cms (bes G s k) p y c k then p + bes G s k else y) (if cms (bes G s k) p y c k then nn k else c) ∧ (if cms (bes G s k) p y c k then p - co G o k else e) = er G D o (tset τ l p) (if cms (bes G s k) p y c k then nn k else c) := by
  have hno : ¬ lM G D o l k := by
    unfold lM
    rw [if_pos hk]
    omega
  have h' : isC (lM G D o l) (ist G D o (tset τ l p) s) (G 9 s) (nP G) y c := isC_cg h (fun _ _ => Iff.rfl) (fun j _ hm => (ist_1 hm).symm)
  have hv : ist G D o (tset τ l p) s k = p + bes G s k := by
    unfold ist tset
    rw [if_pos hk, if_pos hc]
  have ha := isC_add (by omega) h' hkn (fun j _ => lM_1 hk hc j) hno
  rw [hv] at ha
  refine ⟨?_, ?_⟩
  · by_cases q : cms (bes G s k) p y c k
    · have q1 : p + bes G s k < y ∨ p + bes G s k = y ∧ nn k < c := q
      rw [if_pos q, if_pos q]
      rw [if_pos q1, if_pos q1] at ha
      exact ha
    · have q1 : ¬ (p + bes G s k < y ∨ p + bes G s k = y ∧ nn k < c) := q
      rw [if_neg q, if_neg q]
      rw [if_neg q1, if_neg q1] at ha
      exact ha
  · by_cases q : cms (bes G s k) p y c k
    · rw [if_pos q, if_pos q]
      unfold er tset
      rw [if_neg (nn_m1 (by omega)), nn_c (by omega), if_pos hk, if_pos hc]
    · rw [if_neg q, if_neg q, er_1 hP h]
      exact he
theorem x_putPrice {G D S : gx_S} {o l : Nat} {τ : Nat → Int32} (ho : o < 6) (hG : wG G) (hw : wD G D) (ht : ∀ i, bw (τ i) 0 9) (hv : vG G S) (hL : oL G D o S) (hl : lv G D o τ l S) (hc : l < cnt G D o) {p : Nat} (hp : p < 10) : gt (m_Bests_putPrice (nn l) (nn p) S) fun T => (∀ q j, q ≠ 44 → q ≠ 48 + l → q ≠ 53 + l → q ≠ 58 + l → T q j = S q j) ∧ T 44 l = nn p ∧ (∀ i, i ≠ l → T 44 i = S 44 i) ∧ lv G D o (tset τ l (nn p)) (l + 1) T := by
  obtain ⟨eP, hP⟩ := wG_P hG
  obtain ⟨eS, hS⟩ := wG_S hG
  have h3 := hw.2.2 o ho
  obtain ⟨k, hkn, hk, hck⟩ := cn_at (ow D o) (n := nP G) hc
  have hck' : cu D o k = l := hck
  obtain ⟨eL, eC⟩ := hL.2 k hkn hk
  rw [hck'] at eL eC
  have v := hv.1
  unfold m_Bests_putPrice
  simp (disch := omega) only [ck_n, nn_c, let_s, gx_st_q, eL]
  refine gt_for (nS G) (fun s t => t.1 = nn s ∧ (∀ q j, q ≠ 44 → q ≠ 48 + l → q ≠ 53 + l → q ≠ 58 + l → t.2 q j = S q j) ∧ t.2 44 l = nn p ∧ (∀ i, i ≠ l → t.2 44 i = S 44 i) ∧ ∀ s', s' < s → isC (lM G D o (l + 1)) (ist G D o (tset τ l (nn p)) s') (G 9 s') (nP G) (t.2 (47 + (l + 1)) s') (t.2 (52 + (l + 1)) s') ∧ t.2 (57 + (l + 1)) s' = er G D o (tset τ l (nn p)) (t.2 (52 + (l + 1)) s')) ?_ ?_ 0 5000 _ (by omega) ⟨rfl, fun q j h1 h2 h3 h4 => ?_, ?_, fun i hi => ?_, fun s' hs => absurd hs (by omega)⟩ (by omega)
  · rintro s ⟨x, T⟩ kk hs ⟨e, f, g1, g2, g3⟩ hkk
    subst e
    simp only at f g1 g2 g3
    have hvT : vG G T := vG_f hv hS (fun q j hq => f q j (by omega) (by omega) (by omega) (by omega))
    have vb := hvT.2
    have e1 : T 1 2 = nn (nS G) := by rw [hvT.1 _ _ (by omega) (by omega), eS]
    have eL' : T 42 l = nn k := by rw [f _ _ (by omega) (by omega) (by omega) (by omega), eL]
    have eC' : T 43 l = co G o k := by rw [f _ _ (by omega) (by omega) (by omega) (by omega), eC]
    have a1 : T (47 + l) s = S (47 + l) s := f _ _ (by omega) (by omega) (by omega) (by omega)
    have a2 : T (52 + l) s = S (52 + l) s := f _ _ (by omega) (by omega) (by omega) (by omega)
    have a3 : T (57 + l) s = S (57 + l) s := f _ _ (by omega) (by omega) (by omega) (by omega)
    simp only [m_Bests_putPrice_17]
    simp (disch := omega) only [e1, nn_le, nn_s, x_highestFor hG hvT (l := l) (by omega) hs hkn eL', cp_s, a1, a2]
    rw [if_neg (by omega)]
    have hcm := hf_cmp (nn p) (bes G s k) (S (47 + l) s) (S (52 + l) s) (nn k) (nn_b (b := 9) (by omega) (by omega)) (bes_b hG s k) (l_b hG hw ht (hl s hs).1)
    haveI : Decidable (cms (bes G s k) (nn p) (S (47 + l) s) (S (52 + l) s) k) := Classical.propDecidable _
    have hlv := lv_1 (p := nn p) hP hkn hk hck' (hl s hs).1 (hl s hs).2
    simp only [m_Bests_putPrice_45, m_Bests_putPrice_88, m_Bests_putPrice_117, m_Bests_putPrice_153]
    by_cases q : cms (bes G s k) (nn p) (S (47 + l) s) (S (52 + l) s) k
    · rw [if_neg (by rw [hcm]; exact fun z => z q)]
      rw [if_pos q, if_pos q, if_pos q] at hlv
      rw [if_neg (by decide)]
      simp (disch := omega) only [nn_s, nn_c, ck_n, let_s, vb, if_neg (show ¬ (1 : Int32) = 0 by decide), gx_st_q, eC']
      refine hkk _ ⟨rfl, fun q j h1 h2 h3 h4 => ?_, ?_, fun i hi => ?_, fun s' hs' => ?_⟩
      · simp (disch := omega) only [gx_st_q]
        exact f q j h1 h2 h3 h4
      · simp (disch := omega) only [gx_st_q]
        exact g1
      · simp (disch := omega) only [gx_st_q]
        exact g2 i hi
      · rcases Nat.lt_or_ge s' s with y | y
        · simp (disch := omega) only [gx_st_q, gx_st_j]
          exact g3 s' y
        · have : s' = s := by omega
          subst this
          simp (disch := omega) only [gx_st_q, gx_st_eq]
          exact hlv
    · rw [if_pos (by rw [hcm]; exact q)]
      rw [if_neg q, if_neg q, if_neg q] at hlv
      rw [if_pos trivial]
      simp (disch := omega) only [nn_s, nn_c, ck_n, let_s, vb, ↓reduceIte, gx_st_q, a1, a2, a3]
      refine hkk _ ⟨rfl, fun q j h1 h2 h3 h4 => ?_, ?_, fun i hi => ?_, fun s' hs' => ?_⟩
      · simp (disch := omega) only [gx_st_q]
        exact f q j h1 h2 h3 h4
      · simp (disch := omega) only [gx_st_q]
        exact g1
      · simp (disch := omega) only [gx_st_q]
        exact g2 i hi
      · rcases Nat.lt_or_ge s' s with y | y
        · simp (disch := omega) only [gx_st_q, gx_st_j]
          exact g3 s' y
        · have : s' = s := by omega
          subst this
          simp (disch := omega) only [gx_st_q, gx_st_eq]
          exact hlv
  · rintro ⟨x, T⟩ kk ⟨e, f, g1, g2, g3⟩
    subst e
    simp only at f g1 g2 g3
    simp only [m_Bests_putPrice_17]
    have e1 : T 1 2 = nn (nS G) := by rw [f _ _ (by omega) (by omega) (by omega) (by omega), v _ _ (by omega) (by omega), eS]
    simp (disch := omega) only [e1, nn_le]
    rw [if_pos (by omega)]
    refine gt_some ⟨f, g1, g2, fun s hs => ?_⟩
    exact g3 s hs
  · simp (disch := omega) only [gx_st_q]
  · simp (disch := omega) only [gx_st_eq]
  · simp (disch := omega) only [gx_st_j]
theorem x_keep {G D S : gx_S} {o : Nat} (hc : cnt G D o ≤ 3) (e : S 41 5 = nn (cnt G D o)) (f : Int32) : gt (m_Bests_keepIfBetter f S) fun T => (∀ q j, q ≠ 45 → (q ≠ 41 ∨ j ≠ 11) → T q j = S q j) ∧ ((S 41 11 < f ∧ T 41 11 = f ∧ ∀ i, i < cnt G D o → T 45 i = S 44 i) ∨ (¬ S 41 11 < f ∧ T = S)) := by
  unfold m_Bests_keepIfBetter
  refine gt_ite (fun q => gt_some ⟨fun _ _ _ _ => rfl, Or.inr ⟨by lia, rfl⟩⟩) (fun q => gt_let ?_)
  refine gt_for (cnt G D o) (fun j t => t.1 = nn j ∧ (∀ q j, q ≠ 45 → (q ≠ 41 ∨ j ≠ 11) → t.2 q j = S q j) ∧ t.2 41 11 = f ∧ ∀ i, i < j → t.2 45 i = S 44 i) ?_ ?_ 0 5000 _ (by omega) ⟨rfl, fun q j h1 h2 => ?_, gx_st_eq S 41 11 f, fun i hi => absurd hi (by omega)⟩ (by omega)
  · rintro j ⟨x, T⟩ k hj ⟨rfl, g, g1, g2⟩ hk
    simp only at g g1 g2
    simp only [m_Bests_keepIfBetter_15]
    have e1 : T 41 5 = nn (cnt G D o) := by rw [g _ _ (by omega) (Or.inr (by omega)), e]
    have e2 : T 44 j = S 44 j := g _ _ (by omega) (Or.inl (by omega))
    simp (disch := omega) only [e1, nn_le, nn_c, ck_n, let_s, nn_s, e2]
    rw [if_neg (by omega)]
    refine hk _ ⟨rfl, fun q j h1 h2 => ?_, ?_, fun i hi => ?_⟩
    · simp (disch := omega) only [gx_st_q]
      exact g q j h1 h2
    · simp (disch := omega) only [gx_st_q]
      exact g1
    · rcases Nat.lt_or_ge i j with y | y
      · simp (disch := omega) only [gx_st_j]
        exact g2 i y
      · have : i = j := by omega
        subst this
        simp only [gx_st_eq]
  · rintro ⟨x, T⟩ k ⟨rfl, g, g1, g2⟩
    simp only at g g1 g2
    simp only [m_Bests_keepIfBetter_15]
    have e1 : T 41 5 = nn (cnt G D o) := by rw [g _ _ (by omega) (Or.inr (by omega)), e]
    simp (disch := omega) only [e1, nn_le]
    rw [if_pos (by omega)]
    exact gt_some ⟨g, Or.inl ⟨by lia, g1, g2⟩⟩
  · by_cases z : q = 41
    · subst z
      simp only
      exact gx_st_j _ _ _ (by omega)
    · exact gx_st_q _ _ _ _ z

