/-! b04: sets of shops as bits -/
def cn (p : Nat → Bool) : Nat → Nat
  | 0 => 0
  | j + 1 => cn p j + (if p j then 1 else 0)
def mb (p : Nat → Bool) : Nat → Nat
  | 0 => 0
  | j + 1 => mb p j + (if p j then 2 ^ j else 0)
def pcn (m : Nat) : Nat → Nat
  | 0 => 0
  | k + 1 => pcn m k + (if m.testBit k then 1 else 0)
def pc (m : Nat) : Nat := pcn m 6
def ow (D : gx_S) (o k : Nat) : Bool := decide (D 2 k = nn o)
/-- the shops of an owner among the first j; all of them -/
def cu (D : gx_S) (o : Nat) : Nat → Nat := cn (ow D o)
def cnt (G D : gx_S) (o : Nat) : Nat := cu D o (nP G)
theorem mb_lt (p : Nat → Bool) : ∀ n, mb p n < 2 ^ n
  | 0 => by show 0 < 1; decide
  | n + 1 => by
    have := mb_lt p n
    show mb p n + (if p n then 2 ^ n else 0) < 2 ^ (n + 1)
    rw [Nat.pow_succ]
    split <;> omega
theorem mb_64 (p : Nat → Bool) {n : Nat} (h : n ≤ 6) : mb p n < 64 := Nat.lt_of_lt_of_le (mb_lt p n) (Nat.pow_le_pow_right (by decide) h)
theorem cn_le (p : Nat → Bool) : ∀ n, cn p n ≤ n
  | 0 => Nat.le_refl _
  | n + 1 => by
    have := cn_le p n
    show cn p n + (if p n then 1 else 0) ≤ n + 1
    split <;> omega
theorem cn_mono (p : Nat → Bool) {m : Nat} : ∀ {n : Nat}, m ≤ n → cn p m ≤ cn p n
  | 0, h => by rw [Nat.le_zero.mp h]; exact Nat.le_refl _
  | n + 1, h => by
    rcases Nat.lt_or_ge m (n + 1) with q | q
    · have := cn_mono p (m := m) (n := n) (by omega)
      show cn p m ≤ cn p n + (if p n then 1 else 0)
      omega
    · rw [show m = n + 1 by omega]; exact Nat.le_refl _
theorem cn_lt (p : Nat → Bool) {m n : Nat} (h : m < n) (hp : p m = true) : cn p m < cn p n := by
  have := cn_mono p (m := m + 1) (n := n) h
  have e : cn p (m + 1) = cn p m + 1 := by show cn p m + (if p m then 1 else 0) = _; rw [if_pos hp]
  omega
/-- each number below the count is the count at some member -/
theorem cn_at (p : Nat → Bool) {i : Nat} : ∀ {n : Nat}, i < cn p n → ∃ k, k < n ∧ p k = true ∧ cn p k = i
  | 0, h => absurd h (by simp [cn])
  | n + 1, h => by
    have e : cn p (n + 1) = cn p n + (if p n then 1 else 0) := rfl
    rcases Nat.lt_or_ge i (cn p n) with q | q
    · obtain ⟨k, h1, h2, h3⟩ := cn_at p q
      exact ⟨k, by omega, h2, h3⟩
    · by_cases hp : p n = true
      · rw [if_pos hp] at e
        exact ⟨n, by omega, hp, by omega⟩
      · rw [if_neg hp] at e
        omega
theorem cn_inj (p : Nat → Bool) {k k' : Nat} (h : p k = true) (h' : p k' = true) (e : cn p k = cn p k') : k = k' := by
  rcases Nat.lt_trichotomy k k' with q | q | q
  · have := cn_lt p q h; omega
  · exact q
  · have := cn_lt p q h'; omega
theorem fb_pc : ∀ m, m < 64 → m_Integer_bitCount (nn m) (fun _ _ => 0) = some (nn (pc m)) := by decide +kernel
theorem fb_ones : ∀ m, m < 64 → n_ones (nn m) (fun _ _ => 0) = some (nn (pc m)) := by decide +kernel
theorem fb_or : ∀ n, n < 6 → ∀ m, m < 64 → m < 2 ^ n → nn m ||| ((1 : Int32) <<< (nn n &&& 31)) = nn (m + 2 ^ n) := by decide +kernel
theorem fb_1 : ∀ n, n < 6 → ((1 : Int32) <<< (nn n &&& 31)) = nn (2 ^ n) := by decide +kernel
theorem fb_bi : ∀ m, m < 64 → ∀ k, k < 6 → bi (nn m) k = if m.testBit k then 1 else 0 := by decide +kernel
theorem fb_m1 : ∀ k, k < 6 → bi (-1) k = 1 := by decide +kernel
theorem fb_tb : ∀ n, n < 6 → ∀ m, m < 64 → m < 2 ^ n → ∀ k, k < 6 → (m + 2 ^ n).testBit k = (m.testBit k || k == n) := by decide +kernel
theorem fb_pc1 : ∀ n, n < 6 → ∀ m, m < 64 → m < 2 ^ n → pc (m + 2 ^ n) = pc m + 1 := by decide +kernel
theorem x_bitCount {m : Nat} (h : m < 64) (S : gx_S) : m_Integer_bitCount (nn m) S = some (nn (pc m)) := fb_pc m h
theorem u_ones {m : Nat} (h : m < 64) (S : gx_S) : n_ones (nn m) S = some (nn (pc m)) := fb_ones m h
theorem mb_or (p : Nat → Bool) {n : Nat} (h : n < 6) (hp : p n = true) : nn (mb p n) ||| ((1 : Int32) <<< (nn n &&& 31)) = nn (mb p (n + 1)) := by
  rw [fb_or n h _ (mb_64 p (by omega)) (mb_lt p n)]
  show _ = nn (mb p n + (if p n then 2 ^ n else 0))
  rw [if_pos hp]
theorem mb_no (p : Nat → Bool) {n : Nat} (hp : ¬ p n = true) : mb p (n + 1) = mb p n := by
  show mb p n + (if p n then 2 ^ n else 0) = _
  rw [if_neg hp]; rfl
theorem pc_mb (p : Nat → Bool) : ∀ {n : Nat}, n ≤ 6 → pc (mb p n) = cn p n
  | 0, _ => by show pc 0 = 0; decide
  | n + 1, h => by
    have ih := pc_mb p (n := n) (by omega)
    by_cases hp : p n = true
    · show pc (mb p n + (if p n then 2 ^ n else 0)) = cn p n + (if p n then 1 else 0)
      rw [if_pos hp, if_pos hp, fb_pc1 n (by omega) _ (mb_64 p (by omega)) (mb_lt p n), ih]
    · rw [mb_no p hp, ih]
      show _ = cn p n + (if p n then 1 else 0)
      rw [if_neg hp]; rfl
theorem tb_mb (p : Nat → Bool) {k : Nat} (hk : k < 6) : ∀ {n : Nat}, n ≤ 6 → (mb p n).testBit k = (p k && decide (k < n))
  | 0, _ => by simp [mb]
  | n + 1, h => by
    have ih := tb_mb p hk (n := n) (by omega)
    by_cases hp : p n = true
    · show (mb p n + (if p n then 2 ^ n else 0)).testBit k = _
      rw [if_pos hp, fb_tb n (by omega) _ (mb_64 p (by omega)) (mb_lt p n) k hk, ih]
      by_cases e : k = n
      · subst e; simp [hp]
      · have : (k == n) = false := by simp [e]
        rw [this, Bool.or_false]
        congr 1
        exact decide_eq_decide.mpr ⟨fun _ => by omega, fun _ => by omega⟩
    · rw [mb_no p hp, ih]
      by_cases e : k = n
      · subst e; simp [hp]
      · congr 1
        exact decide_eq_decide.mpr ⟨fun _ => by omega, fun _ => by omega⟩
theorem x_setOf {r : Nat} {G D S : gx_S} (h : pX r G D S) (o : Nat) : m_Standing_setOf r (nn o) S = some (nn (mb (ow D o) (nP G))) := by
  have v := h.2.2.1.1
  have d : ∀ i j, 1 ≤ i → i ≤ 3 → j < 6 → S (21 + 4 * r + i) j = D i j := h.2.2.2
  obtain ⟨eP, hP⟩ := wG_P h.1
  unfold m_Standing_setOf
  refine lp_for (nP G) (fun j => (nn (mb (ow D o) j), nn j)) (fun j k hj => ?_) (fun k => ?_) 0 5000 (by omega) (by omega)
  · simp only [m_Standing_setOf_4, m_Standing_setOf_31]
    simp (disch := omega) only [v, d, eP, nn_le, nn_c, ck_n, nn_s]
    rw [if_neg (by omega)]
    by_cases q : D 2 j = nn o
    · rw [if_pos q, mb_or _ (by omega) (by simp [ow, q])]
    · rw [if_neg q, mb_no _ (by simp [ow, q])]
  · simp only [m_Standing_setOf_4]
    simp (disch := omega) only [v, eP, nn_le]
    rw [if_pos (by omega)]
theorem x_shopsOf {r : Nat} {G D S : gx_S} (h : pX r G D S) (o : Nat) : m_Standing_shopsOf r (nn o) S = some (nn (cnt G D o)) := by
  have hP := (wG_P h.1).2
  unfold m_Standing_shopsOf
  rw [x_setOf h o, cp_s, x_bitCount (mb_64 _ hP), cp_s, pc_mb _ hP]
  rfl
theorem x_openShops {r : Nat} {G D S : gx_S} (h : pX r G D S) : m_Standing_openShops r S = some (nn (mb (opn G D) (nP G))) := by
  have v := h.2.2.1.1
  obtain ⟨eP, hP⟩ := wG_P h.1
  unfold m_Standing_openShops
  refine lp_for (nP G) (fun j => (nn (mb (opn G D) j), nn j)) (fun j k hj => ?_) (fun k => ?_) 0 5000 (by omega) (by omega)
  · simp only [m_Standing_openShops_4, m_Standing_openShops_29]
    simp (disch := omega) only [v, eP, nn_le, x_isOpen h (k := j) (by omega), cp_s, nn_s, ib_0]
    rw [if_neg (by omega)]
    by_cases q : opn G D j = true
    · rw [if_neg (by simp [q]), mb_or _ (by omega) q]
    · rw [if_pos (by simpa using q), mb_no _ q]
  · simp only [m_Standing_openShops_4]
    simp (disch := omega) only [v, eP, nn_le]
    rw [if_pos (by omega)]
/-- the open shop nearest to shop i that is not in the set m -/
def nea (G D : gx_S) (i m n : Nat) : Int32 × Int32 := chN (fun k => ab (G 4 k - G 4 i)) (fun k => opn G D k && !m.testBit k) 98 n
theorem x_nearestOpen {r : Nat} {G D S : gx_S} (h : pX r G D S) {i m : Nat} (hi : i < 6) (hm : m < 64) : m_Standing_nearestOpen r (nn i) (nn m) S = some (nea G D i m (nP G)).1 := by
  have v := h.2.2.1.1
  obtain ⟨eP, hP⟩ := wG_P h.1
  unfold m_Standing_nearestOpen
  refine lp_for (nP G) (fun j => ((nea G D i m j).1, (nea G D i m j).2, nn j)) (fun j k hj => ?_) (fun k => ?_) 0 5000 (by omega) (by omega)
  · simp only [m_Standing_nearestOpen_9, m_Standing_nearestOpen_78]
    have hb := fb_bi m hm j (by omega)
    unfold bi at hb
    simp (disch := omega) only [v, eP, nn_le, nn_c, ck_n, x_isOpen h (k := j) (by omega), cp_s, nn_s, ib_0, hb, ab_d]
    rw [if_neg (by omega)]
    rw [show nea G D i m (j + 1) = if ab (G 4 j - G 4 i) < (nea G D i m j).2 ∧ (opn G D j && !m.testBit j) = true then (nn j, ab (G 4 j - G 4 i)) else nea G D i m j from rfl]
    cases hb2 : m.testBit j with
    | true => rw [if_neg (by simp), if_neg (by simp)]
    | false =>
      rw [if_pos (by simp)]
      cases ho : opn G D j with
      | false => rw [if_pos rfl, if_neg (by simp)]
      | true =>
        rw [if_neg (by simp)]
        by_cases a : (nea G D i m j).2 ≤ ab (G 4 j - G 4 i)
        · rw [if_pos a, if_neg (by rintro ⟨q, _⟩; lia)]
        · rw [if_neg a, if_pos ⟨by lia, by simp⟩]
  · simp only [m_Standing_nearestOpen_9]
    simp (disch := omega) only [v, eP, nn_le]
    rw [if_pos (by omega)]
