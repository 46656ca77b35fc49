/-! b01: numbers, what a model gives, loops, sums -/
def nn (k : Nat) : Int32 := Int32.ofNat k
theorem nn_c {k : Nat} (h : k < 2147483648) : (nn k).toNatClampNeg = k := Int32.toNatClampNeg_ofNat_of_lt h
theorem nn_i {k : Nat} (h : k < 2147483648) : (nn k).toInt = k := Int32.toInt_ofNat_of_lt h
theorem nn_s (k : Nat) : nn k + 1 = nn (k + 1) := by
  show Int32.ofNat k + Int32.ofNat 1 = Int32.ofNat (k + 1)
  rw [Int32.ofNat_add]
theorem nn_add (a b : Nat) : nn a + nn b = nn (a + b) := by
  show Int32.ofNat a + Int32.ofNat b = Int32.ofNat (a + b)
  rw [Int32.ofNat_add]
theorem nn_le {a b : Nat} (ha : a < 2147483648) (hb : b < 2147483648) : nn a ≤ nn b ↔ a ≤ b := by
  rw [Int32.le_iff_toInt_le, nn_i ha, nn_i hb]; omega
theorem nn_lt {a b : Nat} (ha : a < 2147483648) (hb : b < 2147483648) : nn a < nn b ↔ a < b := by
  rw [Int32.lt_iff_toInt_lt, nn_i ha, nn_i hb]; omega
theorem nn_eq {a b : Nat} (ha : a < 2147483648) (hb : b < 2147483648) : nn a = nn b ↔ a = b := by
  rw [← Int32.toInt_inj, nn_i ha, nn_i hb]; omega
theorem nn_m1 {a : Nat} (ha : a < 2147483648) : ¬ nn a = -1 := by
  rw [← Int32.toInt_inj, nn_i ha]
  have : (-1 : Int32).toInt = -1 := by decide
  omega
theorem nn_p {k : Nat} (h : 0 < k) : nn k - 1 = nn (k - 1) := by
  obtain ⟨m, rfl⟩ : ∃ m, k = m + 1 := ⟨k - 1, by omega⟩
  rw [← nn_s]
  simp
theorem nn_of {x : Int32} (h : 0 ≤ x) : x = nn x.toNatClampNeg := by
  have := Int32.ofNat_toNatClampNeg x (by simpa using h)
  exact this.symm
theorem nn_0 : (0 : Int32) = nn 0 := rfl
/-- what a model gives -/
def gt {R : Type} (o : Option R) (P : R → Prop) : Prop := ∃ r, o = some r ∧ P r
theorem gt_some {R : Type} {r : R} {P : R → Prop} (h : P r) : gt (some r) P := ⟨r, rfl, h⟩
theorem gt_mono {R : Type} {o : Option R} {P Q : R → Prop} (h : gt o P) (hq : ∀ r, P r → Q r) : gt o Q := by
  obtain ⟨r, e, p⟩ := h
  exact ⟨r, e, hq r p⟩
theorem gt_of {R : Type} {o : Option R} {r : R} (h : o = some r) : gt o (fun x => x = r) := ⟨r, h, rfl⟩
theorem gt_to {R : Type} {o : Option R} {r : R} (h : gt o (fun x => x = r)) : o = some r := by
  obtain ⟨x, e, p⟩ := h
  rw [e, p]
theorem gt_ite {R : Type} {c : Prop} [Decidable c] {a b : Option R} {P : R → Prop} (h1 : c → gt a P) (h2 : ¬ c → gt b P) : gt (if c then a else b) P := by
  by_cases h : c
  · rw [if_pos h]; exact h1 h
  · rw [if_neg h]; exact h2 h
theorem gt_let {R : Type} {v : gx_S} {k : gx_S → Option R} {P : R → Prop} (h : gt (k v) P) : gt (gx_let v k) P := h
theorem gt_cp {A R : Type} {o : Option A} {k : A → Option R} {Q : A → Prop} {P : R → Prop} (h : gt o Q) (h2 : ∀ a, Q a → gt (k a) P) : gt (gx_cp o k) P := by
  obtain ⟨a, e, q⟩ := h
  subst e
  exact h2 a q
theorem gt_cs {A R : Type} {o : Option (A × gx_S)} {k : A → gx_S → Option R} {Q : A × gx_S → Prop} {P : R → Prop} (h : gt o Q) (h2 : ∀ a S, Q (a, S) → gt (k a S) P) : gt (gx_cs o k) P := by
  obtain ⟨⟨a, S⟩, e, q⟩ := h
  subst e
  exact h2 a S q
theorem ck_n {R : Type} {N k : Nat} {x : Option R} (h : k < N) (hN : N ≤ 2147483647) : gx_ck N (nn k) x = x := by
  have hc : ¬ (nn k < 0 ∨ N ≤ (nn k).toNatClampNeg) := by
    rw [nn_c (by omega), nn_0, nn_lt (by omega) (by omega)]
    omega
  unfold gx_ck
  rw [if_neg hc]
theorem ck_0 {R : Type} {N : Nat} {x : Option R} (h : 0 < N) (hN : N ≤ 2147483647) : gx_ck N (0 : Int32) x = x := ck_n (k := 0) h hN
theorem cp_s {A R : Type} {v : A} {k : A → Option R} : gx_cp (some v) k = k v := rfl
theorem cs_s {A R : Type} {v : A} {S : gx_S} {k : A → gx_S → Option R} : gx_cs (some (v, S)) k = k v S := rfl
theorem let_s {R : Type} {v : gx_S} {k : gx_S → Option R} : gx_let v k = k v := rfl
theorem bz_0 {R : Type} {k : Option R} : gx_bz 0 k = k := by simp [gx_bz]
theorem bz_1 {R : Type} {k : Option R} : gx_bz 1 k = k := by simp [gx_bz]
theorem gx_loop_s {L R : Type} {body : L → (L → Option R) → Option R} {n : Nat} {t : L} : gx_loop body (n + 1) t = body t (gx_loop body n) := rfl
/-- a counted loop: I j holds ahead of turn j -/
theorem gt_for {L R : Type} {body : L → (L → Option R) → Option R} {P : R → Prop} (n : Nat) (I : Nat → L → Prop) (hb : ∀ j t k, j < n → I j t → (∀ t', I (j + 1) t' → gt (k t') P) → gt (body t k) P) (he : ∀ t k, I n t → gt (body t k) P) : ∀ (i m : Nat) (t : L), i ≤ n → I i t → n < i + m → gt (gx_loop body m t) P
  | i, 0, t, h1, _, h3 => absurd h3 (by omega)
  | i, m + 1, t, h1, hI, h3 => by
    rw [gx_loop_s]
    rcases Nat.lt_or_ge i n with q | q
    · exact hb i t _ q hI (fun t' h' => gt_for n I hb he (i + 1) m t' (by omega) h' (by omega))
    · have : i = n := by omega
      subst this
      exact he t _ hI
/-- a loop: I holds at each turn, and what f tells falls -/
theorem gt_loop {L R : Type} {body : L → (L → Option R) → Option R} {P : R → Prop} (I : L → Prop) (f : L → Nat) (hb : ∀ t k, I t → (∀ t', I t' → f t' < f t → gt (k t') P) → gt (body t k) P) : ∀ (n : Nat) (t : L), I t → f t < n → gt (gx_loop body n t) P
  | 0, t, _, h => absurd h (by omega)
  | n + 1, t, hI, h => by
    rw [gx_loop_s]
    exact hb t _ hI (fun t' h1 h2 => gt_loop I f hb n t' h1 (by omega))
/-- a counted loop whose turns are told -/
theorem lp_for {L R : Type} {body : L → (L → Option R) → Option R} {o : Option R} (n : Nat) (st : Nat → L) (hb : ∀ j k, j < n → body (st j) k = k (st (j + 1))) (he : ∀ k, body (st n) k = o) : ∀ (i m : Nat), i ≤ n → n < i + m → gx_loop body m (st i) = o
  | i, 0, h1, h3 => absurd h3 (by omega)
  | i, m + 1, h1, h3 => by
    rw [gx_loop_s]
    rcases Nat.lt_or_ge i n with q | q
    · rw [hb i _ q]
      exact lp_for n st hb he (i + 1) m (by omega) (by omega)
    · have : i = n := by omega
      subst this
      exact he _
/-- a counted loop that may end early: at the turn j where x j is some -/
theorem lp_if {L R : Type} {body : L → (L → Option R) → Option R} {o : Option R} (n : Nat) (st : Nat → L) (w : Nat → Option (Option R)) (hb : ∀ j k, j < n → body (st j) k = (match w j with | some r => r | none => k (st (j + 1)))) (he : ∀ k, body (st n) k = o) : ∀ (i m : Nat), i ≤ n → n < i + m → gx_loop body m (st i) = (((List.range' i (n - i)).findSome? w).getD o)
  | i, 0, h1, h3 => absurd h3 (by omega)
  | i, m + 1, h1, h3 => by
    rw [gx_loop_s]
    rcases Nat.lt_or_ge i n with q | q
    · rw [hb i _ q]
      obtain ⟨d, hd⟩ : ∃ d, n - i = d + 1 := ⟨n - i - 1, by omega⟩
      rw [hd, List.range'_succ, List.findSome?_cons]
      cases hw : w i with
      | some r => simp
      | none =>
        simp only
        rw [lp_if n st w hb he (i + 1) m (by omega) (by omega)]
        have : n - (i + 1) = d := by omega
        rw [this]
    · have : i = n := by omega
      subst this
      rw [he]
      simp
/-- sums -/
def sm (f : Nat → Int32) : Nat → Int32
  | 0 => 0
  | k + 1 => sm f k + f k
theorem sm_cg {f g : Nat → Int32} : ∀ {n : Nat}, (∀ j, j < n → f j = g j) → sm f n = sm g n
  | 0, _ => rfl
  | n + 1, h => by
    show sm f n + f n = sm g n + g n
    rw [sm_cg (fun j hj => h j (by omega)), h n (by omega)]
theorem sm_add {f g : Nat → Int32} : ∀ {n : Nat}, sm (fun j => f j + g j) n = sm f n + sm g n
  | 0 => by simp [sm]
  | n + 1 => by
    show sm (fun j => f j + g j) n + (f n + g n) = sm f n + f n + (sm g n + g n)
    rw [sm_add]
    grind
theorem sm_0 {n : Nat} : sm (fun _ => 0) n = 0 := by
  induction n with
  | zero => rfl
  | succ n h => show sm _ n + 0 = 0; rw [h]; rfl
theorem sm_mul {f : Nat → Int32} {c : Int32} : ∀ {n : Nat}, sm (fun j => f j * c) n = sm f n * c
  | 0 => by simp [sm]
  | n + 1 => by
    show sm (fun j => f j * c) n + f n * c = (sm f n + f n) * c
    rw [sm_mul]
    grind
theorem sm_swap {f : Nat → Nat → Int32} {n : Nat} : ∀ {m : Nat}, sm (fun i => sm (f i) n) m = sm (fun j => sm (fun i => f i j) m) n
  | 0 => by show (0 : Int32) = _; rw [show (fun j => sm (fun i => f i j) 0) = (fun _ => (0 : Int32)) from rfl, sm_0]
  | m + 1 => by
    show sm (fun i => sm (f i) n) m + sm (f m) n = _
    rw [sm_swap, ← sm_add]
    rfl
/-- of one place alone -/
theorem sm_one {g : Nat → Int32} {c : Nat} : ∀ {n : Nat}, sm (fun j => if j = c then g j else 0) n = if c < n then g c else 0
  | 0 => by simp [sm]
  | n + 1 => by
    show sm (fun j => if j = c then g j else 0) n + (if n = c then g n else 0) = _
    rw [sm_one]
    by_cases h : n = c
    · subst h; simp
    · by_cases h2 : c < n
      · rw [if_pos h2, if_neg h, if_pos (by omega)]; simp
      · rw [if_neg h2, if_neg h, if_neg (by omega)]; simp
theorem xx_1 (a b c : Int32) (h1 : 0 ≤ a) (h2 : a ≤ 9) (h3 : -50 ≤ b) (h4 : b ≤ 60) (h5 : -100 ≤ c) (h6 : c ≤ 100) : (a + b < c) ↔ (a ≤ c - b - 1) := by
  grind
theorem xx_2 (a b c : Int32) (h1 : 0 ≤ a) (h2 : a ≤ 9) (h3 : -50 ≤ b) (h4 : b ≤ 60) (h5 : -100 ≤ c) (h6 : c ≤ 100) : (a + b ≤ c) ↔ (a ≤ c - b) := by
  lia
