/-! b03: the class's queries -/
/-- the class's street is G; its standing r is D -/
def vG (G S : gx_S) : Prop := (∀ q j, 1 ≤ q → q ≤ 11 → S q j = G q j) ∧ ∀ s k, s < nS G → k < nP G → S (13 + s) k = bes G s k
def vD (r : Nat) (D S : gx_S) : Prop := ∀ i j, 1 ≤ i → i ≤ 3 → j < 6 → S (21 + 4 * r + i) j = D i j
def pX (r : Nat) (G D S : gx_S) : Prop := wG G ∧ w0 D ∧ vG G S ∧ vD r D S
theorem x_costTo {G S : gx_S} (hv : vG G S) {o k : Nat} (ho : o < 6) (hk : k < 6) : m_Street_costTo (nn o) (nn k) S = some (co G o k) := by
  have v := hv.1
  unfold m_Street_costTo co
  simp (disch := omega) only [ck_n, nn_c, v]
  split
  · split <;> rfl
  · rfl
theorem x_whatIs {r : Nat} {G D S : gx_S} (h : pX r G D S) {s k : Nat} (hs : s < nS G) (hk : k < nP G) : m_Standing_whatIs r (nn s) (nn k) S = some (isv G D s k) := by
  have v := h.2.2.1.2
  have d : ∀ i j, 1 ≤ i → i ≤ 3 → j < 6 → S (21 + 4 * r + i) j = D i j := h.2.2.2
  have := (wG_P h.1).2
  have := (wG_S h.1).2
  unfold m_Standing_whatIs isv
  simp (disch := omega) only [ck_n, nn_c, v, d]
theorem x_isOpen {r : Nat} {G D S : gx_S} (h : pX r G D S) {k : Nat} (hk : k < 6) : m_Standing_isOpen r (nn k) S = some (ib (opn G D k)) := by
  have v := h.2.2.1.1
  have d : ∀ i j, 1 ≤ i → i ≤ 3 → j < 6 → S (21 + 4 * r + i) j = D i j := h.2.2.2
  obtain ⟨e, hw⟩ := w0_w h.2.1 hk
  unfold m_Standing_isOpen m_Standing_isOpen_29 opn
  simp (disch := omega) only [ck_n, nn_c, d, e, v]
  by_cases a : G 2 (wh D k) = 4
  · by_cases b : D 3 (wh D k) = 0
    · simp [a, b, ib]
    · simp [a, b, ib]
  · simp [a, ib]
theorem x_choice {r : Nat} {G D S : gx_S} (h : pX r G D S) {s : Nat} (hs : s < nS G) (sh : Int32) : m_Standing_choice r (nn s) sh S = some (cho G D s sh) := by
  have v := h.2.2.1.1
  have hS := (wG_S h.1).2
  obtain ⟨eP, hP⟩ := wG_P h.1
  unfold m_Standing_choice
  simp (disch := omega) only [ck_n, nn_c, v]
  refine lp_for (nP G) (fun j => ((chN (isv G D s) (opx G D sh) (G 9 s) j).1, (chN (isv G D s) (opx G D sh) (G 9 s) j).2, nn j)) (fun j k hj => ?_) (fun k => ?_) 0 5000 (by omega) (by omega)
  · simp only [m_Standing_choice_18, m_Standing_choice_68]
    simp (disch := omega) only [v, eP, nn_le, x_whatIs h hs hj, x_isOpen h (k := j) (by omega), cp_s, nn_s, ib_0]
    rw [if_neg (by omega)]
    rw [show chN (isv G D s) (opx G D sh) (G 9 s) (j + 1) = if isv G D s j < (chN (isv G D s) (opx G D sh) (G 9 s) j).2 ∧ opx G D sh j = true then (nn j, isv G D s j) else chN (isv G D s) (opx G D sh) (G 9 s) j from rfl]
    by_cases a : (chN (isv G D s) (opx G D sh) (G 9 s) j).2 ≤ isv G D s j
    · rw [if_pos a, if_neg (by rintro ⟨q, _⟩; lia)]
    · rw [if_neg a]
      by_cases b : nn j = sh
      · rw [if_pos b, if_neg (by rintro ⟨_, q⟩; simp [opx, b] at q)]
      · rw [if_neg b]
        by_cases c : opn G D j = false
        · rw [if_pos c, if_neg (by rintro ⟨_, q⟩; simp [opx, c] at q)]
        · rw [if_neg c, if_pos ⟨by lia, by simp [opx, b, c]⟩]
  · simp only [m_Standing_choice_18]
    simp (disch := omega) only [v, eP, nn_le]
    rw [if_pos (by omega)]
    rfl
theorem x_spareOf {r : Nat} {G D S : gx_S} (h : pX r G D S) {s : Nat} (hs : s < nS G) : m_Standing_spareOf r (nn s) S = some (spa G D s) := by
  have v := h.2.2.1.1
  have hS := (wG_S h.1).2
  have hP := (wG_P h.1).2
  unfold m_Standing_spareOf spa
  rw [x_choice h hs, cp_s]
  rcases cho_n G D s (-1) with e | ⟨i, hi, e, _⟩
  · rw [if_pos e, if_pos e]
  · rw [e, if_neg (nn_m1 (by omega)), if_neg (nn_m1 (by omega))]
    simp (disch := omega) only [ck_n, nn_c, v, x_whatIs h hs hi, cp_s]
/-- what a sum over the sorts takes at a turn -/
theorem x_profitOf {r : Nat} {G D S : gx_S} (h : pX r G D S) {o : Nat} (ho : o < 6) : m_Standing_profitOf r (nn o) S = some (pro G D o) := by
  have v := h.2.2.1.1
  have d : ∀ i j, 1 ≤ i → i ≤ 3 → j < 6 → S (21 + 4 * r + i) j = D i j := h.2.2.2
  obtain ⟨eS, hS⟩ := wG_S h.1
  have hP := (wG_P h.1).2
  unfold m_Standing_profitOf
  refine lp_for (nS G) (fun j => (sm (sx G D (gPr G D o)) j, nn j)) (fun j k hj => ?_) (fun k => ?_) 0 5000 (by omega) (by omega)
  · simp only [m_Standing_profitOf_4, m_Standing_profitOf_71]
    simp (disch := omega) only [v, eS, nn_le, x_choice h hj, cp_s, nn_s]
    rw [if_neg (by omega)]
    rw [show sm (sx G D (gPr G D o)) (j + 1) = sm (sx G D (gPr G D o)) j + sx G D (gPr G D o) j from rfl]
    rw [sx_d G D _ j]
    rcases cho_n G D j (-1) with e | ⟨i, hi, e, _⟩
    · rw [if_pos e, if_pos e, Int32.add_zero]
    · rw [e, if_neg (nn_m1 (by omega)), if_neg (nn_m1 (by omega))]
      simp (disch := omega) only [ck_n, nn_c, d, gPr, x_costTo h.2.2.1 ho (k := i), cp_s]
      by_cases q : D 2 i = nn o
      · rw [if_pos q, if_pos q]
      · rw [if_neg q, if_neg q, Int32.mul_zero, Int32.add_zero]
  · simp only [m_Standing_profitOf_4]
    simp (disch := omega) only [v, eS, nn_le]
    rw [if_pos (by omega)]
    rfl
theorem x_soldBy {r : Nat} {G D S : gx_S} (h : pX r G D S) (x : Int32) : m_Standing_soldBy r x S = some (tot G D (gSo x)) := by
  have v := h.2.2.1.1
  have d : ∀ i j, 1 ≤ i → i ≤ 3 → j < 6 → S (21 + 4 * r + i) j = D i j := h.2.2.2
  obtain ⟨eS, hS⟩ := wG_S h.1
  have hP := (wG_P h.1).2
  unfold m_Standing_soldBy
  refine lp_for (nS G) (fun j => (sm (sx G D (gSo x)) j, nn j)) (fun j k hj => ?_) (fun k => ?_) 0 5000 (by omega) (by omega)
  · simp only [m_Standing_soldBy_4, m_Standing_soldBy_51]
    simp (disch := omega) only [v, eS, nn_le, x_choice h hj, cp_s, nn_s]
    rw [if_neg (by omega)]
    rw [show sm (sx G D (gSo x)) (j + 1) = sm (sx G D (gSo x)) j + sx G D (gSo x) j from rfl]
    rw [sx_d G D _ j]
    rcases cho_n G D j (-1) with e | ⟨i, hi, e, _⟩
    · rw [if_pos e, if_pos e, Int32.add_zero]
    · rw [e, if_neg (nn_m1 (by omega)), if_neg (nn_m1 (by omega))]
      simp (disch := omega) only [ck_n, nn_c, gSo, bi, cp_s]
      by_cases q : (x >>> (nn i &&& 31)) &&& 1 = 1
      · rw [if_pos q, if_pos q, Int32.mul_one]
      · rw [if_neg q, if_neg q, Int32.mul_zero, Int32.add_zero]
  · simp only [m_Standing_soldBy_4]
    simp (disch := omega) only [v, eS, nn_le]
    rw [if_pos (by omega)]
    rfl
theorem x_marginOf {r : Nat} {G D S : gx_S} (h : pX r G D S) (x : Int32) : m_Standing_marginOf r x S = some (tot G D (gMa G D x)) := by
  have v := h.2.2.1.1
  have d : ∀ i j, 1 ≤ i → i ≤ 3 → j < 6 → S (21 + 4 * r + i) j = D i j := h.2.2.2
  obtain ⟨eS, hS⟩ := wG_S h.1
  have hP := (wG_P h.1).2
  unfold m_Standing_marginOf
  refine lp_for (nS G) (fun j => (sm (sx G D (gMa G D x)) j, nn j)) (fun j k hj => ?_) (fun k => ?_) 0 5000 (by omega) (by omega)
  · simp only [m_Standing_marginOf_4, m_Standing_marginOf_70]
    simp (disch := omega) only [v, eS, nn_le, x_choice h hj, cp_s, nn_s]
    rw [if_neg (by omega)]
    rw [show sm (sx G D (gMa G D x)) (j + 1) = sm (sx G D (gMa G D x)) j + sx G D (gMa G D x) j from rfl]
    rw [sx_d G D _ j]
    rcases cho_n G D j (-1) with e | ⟨i, hi, e, _⟩
    · rw [if_pos e, if_pos e, Int32.add_zero]
    · rw [e, if_neg (nn_m1 (by omega)), if_neg (nn_m1 (by omega))]
      simp (disch := omega) only [ck_n, nn_c, d, v, gMa, bi, cp_s]
      by_cases q : (x >>> (nn i &&& 31)) &&& 1 = 1
      · rw [if_pos q, if_pos q]
      · rw [if_neg q, if_neg q, Int32.mul_zero, Int32.add_zero]
  · simp only [m_Standing_marginOf_4]
    simp (disch := omega) only [v, eS, nn_le]
    rw [if_pos (by omega)]
    rfl
