/-! b05: the class's standings change; the list of an owner's shops -/
theorem gx_st_eq (S : gx_S) (q j : Nat) (x : Int32) : gx_st S q j x q j = x := by simp [gx_st, va_up, upd]
theorem gx_st_q (S : gx_S) {q q' : Nat} (j j' : Nat) (x : Int32) (h : q' ≠ q) : gx_st S q j x q' j' = S q' j' := by simp [gx_st, va_up, h]
theorem gx_st_j (S : gx_S) (q : Nat) {j j' : Nat} (x : Int32) (h : j' ≠ j) : gx_st S q j x q j' = S q j' := by simp [gx_st, va_up, upd, h]
theorem nar_b {x : Int32} (h : x = 0 ∨ x = 1) : vp_nar .boolean x = x := by
  rcases h with rfl | rfl <;> decide
/-- what a standing keeps -/
def wD (G D : gx_S) : Prop := (∀ j, j < 6 → bw (D 1 j) 0 9 ∧ bw (D 2 j) 0 5 ∧ (D 3 j = 0 ∨ D 3 j = 1 ∧ G 2 j = 4)) ∧ (∀ k, k < nP G → wh D k < nO G) ∧ ∀ o, o < 6 → cnt G D o ≤ 3
theorem wD_0 {G D : gx_S} (h : wD G D) : w0 D := fun j hj => (h.1 j hj).2.1
theorem wD_1 {G D : gx_S} (h : wD G D) {j : Nat} (hj : j < 6) : D 3 j = 0 ∨ D 3 j = 1 := by
  rcases (h.1 j hj).2.2 with e | e
  · exact Or.inl e
  · exact Or.inr e.1
/-- b's shops are a's -/
def gv (G D : gx_S) (a b : Nat) : gx_S := fun i j => if i = 2 ∧ j < nP G ∧ D 2 j = nn b then nn a else D i j
/-- all but a standing's rows are as they were -/
def fD (r : Nat) (S S' : gx_S) : Prop := ∀ q j, (q < 22 + 4 * r ∨ 24 + 4 * r < q) → S' q j = S q j
/-- all but Bests' own are as they were -/
def fB (S S' : gx_S) : Prop := ∀ q j, (q < 41 ∨ 62 < q) → S' q j = S q j
theorem fB_t {S T U : gx_S} (h : fB S T) (h' : fB T U) : fB S U := fun q j hq => (h' q j hq).trans (h q j hq)
theorem fB_r (S : gx_S) : fB S S := fun _ _ _ => rfl
theorem fB_st {S T : gx_S} {q j : Nat} {x : Int32} (h : fB S T) (h1 : 41 ≤ q) (h2 : q ≤ 62) : fB S (gx_st T q j x) := fun q' j' hq => by
  rw [gx_st_q _ _ _ _ (by omega)]
  exact h q' j' hq
theorem vG_f {G S T : gx_S} (h : vG G S) (hS : nS G ≤ 8) (f : ∀ q j, q < 21 → T q j = S q j) : vG G T := by
  refine ⟨fun q j h1 h2 => ?_, fun s k h1 h2 => ?_⟩
  · rw [f _ _ (by omega)]; exact h.1 q j h1 h2
  · rw [f _ _ (by omega)]; exact h.2 s k h1 h2
theorem vD_f {r : Nat} {D S T : gx_S} (h : vD r D S) (f : ∀ q j, 22 + 4 * r ≤ q → q ≤ 24 + 4 * r → T q j = S q j) : vD r D T := fun i j h1 h2 h3 => by
  rw [f _ _ (by omega) (by omega)]; exact h i j h1 h2 h3
theorem pX_f {r : Nat} {G D S T : gx_S} (h : pX r G D S) (hr : r < 5) (f : fB S T) : pX r G D T := ⟨h.1, h.2.1, vG_f h.2.2.1 (wG_S h.1).2 (fun q j hq => f q j (by omega)), vD_f h.2.2.2 (fun q j h1 h2 => f q j (by omega))⟩
theorem x_become {r r1 : Nat} {G D S : gx_S} (hne : r ≠ r1) (hw : wD G D) (hd : vD r1 D S) : gt (m_Standing_become r r1 S) fun T => fD r S T ∧ vD r D T := by
  unfold m_Standing_become
  refine gt_for 6 (fun j t => t.1 = nn j ∧ fD r S t.2 ∧ ∀ i, i < j → t.2 (21 + 4 * r + 1) i = D 1 i ∧ t.2 (21 + 4 * r + 2) i = D 2 i) ?_ ?_ 0 5000 _ (by omega) ⟨rfl, fun _ _ _ => rfl, fun i h => absurd h (by omega)⟩ (by omega)
  · rintro j ⟨x, T⟩ k hj ⟨e, f, g⟩ hk
    subst e
    simp only at f g
    simp only [m_Standing_become_2]
    simp (disch := omega) only [show (6 : Int32) = nn 6 from rfl, nn_le, nn_c, ck_n, let_s, nn_s]
    rw [if_neg (by omega)]
    refine hk _ ⟨rfl, fun q i hq => ?_, fun i hi => ?_⟩
    · simp (disch := omega) only [gx_st_q]
      exact f q i hq
    · have f1 := f (21 + 4 * r1 + 1)
      have f2 := f (21 + 4 * r1 + 2)
      rcases Nat.lt_or_ge i j with q | q
      · simp (disch := omega) only [gx_st_q, gx_st_j]
        exact g i q
      · have : i = j := by omega
        subst this
        simp (disch := omega) only [gx_st_q, gx_st_eq, f1, f2]
        exact ⟨hd 1 i (by omega) (by omega) hj, hd 2 i (by omega) (by omega) hj⟩
  · rintro ⟨x, T⟩ k ⟨e, f, g⟩
    subst e
    simp only at f g
    simp only [m_Standing_become_2]
    rw [if_pos (by decide)]
    refine gt_for 6 (fun j t => t.1 = nn j ∧ fD r S t.2 ∧ (∀ i, i < 6 → t.2 (21 + 4 * r + 1) i = D 1 i ∧ t.2 (21 + 4 * r + 2) i = D 2 i) ∧ ∀ i, i < j → t.2 (21 + 4 * r + 3) i = D 3 i) ?_ ?_ 0 5000 _ (by omega) ⟨rfl, f, g, fun i h => absurd h (by omega)⟩ (by omega)
    · rintro j ⟨x, T⟩ k hj ⟨e, f, g, g3⟩ hk
      subst e
      simp only at f g g3
      simp only [m_Standing_become_40]
      have e3 : T (21 + 4 * r1 + 3) j = D 3 j := by
        rw [f _ _ (by omega)]; exact hd 3 j (by omega) (by omega) hj
      simp (disch := omega) only [show (6 : Int32) = nn 6 from rfl, nn_le, nn_c, ck_n, let_s, nn_s, e3]
      rw [if_neg (by omega), nar_b (wD_1 hw hj)]
      refine hk _ ⟨rfl, fun q i hq => ?_, fun i hi => ?_, fun i hi => ?_⟩
      · simp (disch := omega) only [gx_st_q]
        exact f q i hq
      · simp (disch := omega) only [gx_st_q]
        exact g i hi
      · rcases Nat.lt_or_ge i j with q | q
        · simp (disch := omega) only [gx_st_j]
          exact g3 i q
        · have : i = j := by omega
          subst this
          simp only [gx_st_eq]
    · rintro ⟨x, T⟩ k ⟨e, f, g, g3⟩
      subst e
      simp only at f g g3
      simp only [m_Standing_become_40]
      rw [if_pos (by decide)]
      refine gt_some ⟨f, fun i j h1 h2 h3 => ?_⟩
      match i, h1, h2 with
      | 1, _, _ => exact (g j h3).1
      | 2, _, _ => exact (g j h3).2
      | 3, _, _ => exact g3 j h3
theorem x_give {r : Nat} {G D S : gx_S} (h : pX r G D S) (hr : r < 5) (a b : Nat) : gt (m_Standing_give r (nn b) (nn a) S) fun T => fD r S T ∧ vD r (gv G D a b) T := by
  have v := h.2.2.1.1
  have d : ∀ i j, 1 ≤ i → i ≤ 3 → j < 6 → S (21 + 4 * r + i) j = D i j := h.2.2.2
  obtain ⟨eP, hP⟩ := wG_P h.1
  unfold m_Standing_give
  refine gt_for (nP G) (fun j t => t.1 = nn j ∧ fD r S t.2 ∧ ∀ i k, 1 ≤ i → i ≤ 3 → k < 6 → t.2 (21 + 4 * r + i) k = if k < j then gv G D a b i k else D i k) ?_ ?_ 0 5000 _ (by omega) ⟨rfl, fun _ _ _ => rfl, fun i k h1 h2 h3 => by rw [if_neg (by omega)]; exact d i k h1 h2 h3⟩ (by omega)
  · rintro j ⟨x, T⟩ k hj ⟨e, f, g⟩ hk
    subst e
    simp only at f g
    simp only [m_Standing_give_2, m_Standing_give_30]
    have e1 : T 1 1 = nn (nP G) := by rw [f _ _ (by omega), v _ _ (by omega) (by omega), eP]
    have e2 : T (21 + 4 * r + 2) j = D 2 j := by rw [g 2 j (by omega) (by omega) (by omega), if_neg (by omega)]
    simp (disch := omega) only [e1, nn_le, nn_c, ck_n, let_s, nn_s, e2]
    rw [if_neg (by omega)]
    by_cases q : D 2 j = nn b
    · rw [if_pos q]
      refine hk _ ⟨rfl, fun q i hq => ?_, fun i m h1 h2 h3 => ?_⟩
      · simp (disch := omega) only [gx_st_q]
        exact f q i hq
      · simp only
        by_cases z : i = 2 ∧ m = j
        · obtain ⟨rfl, rfl⟩ := z
          rw [gx_st_eq, if_pos (by omega)]
          simp [gv, hj, q]
        · have : gx_st T (21 + 4 * r + 2) j (nn a) (21 + 4 * r + i) m = T (21 + 4 * r + i) m := by
            by_cases y : i = 2
            · subst y
              exact gx_st_j _ _ _ (by omega)
            · exact gx_st_q _ _ _ _ (by omega)
          rw [this, g i m h1 h2 h3]
          rcases Nat.lt_trichotomy m j with y | y | y
          · rw [if_pos y, if_pos (by omega)]
          · subst y
            rw [if_neg (by omega), if_pos (by omega)]
            have : ¬ i = 2 := fun y => z ⟨y, rfl⟩
            simp [gv, this]
          · rw [if_neg (by omega), if_neg (by omega)]
    · rw [if_neg q]
      refine hk _ ⟨rfl, f, fun i m h1 h2 h3 => ?_⟩
      simp only
      rw [g i m h1 h2 h3]
      rcases Nat.lt_trichotomy m j with y | y | y
      · rw [if_pos y, if_pos (by omega)]
      · subst y
        rw [if_neg (by omega), if_pos (by omega)]
        have : ¬ (i = 2 ∧ m < nP G ∧ D 2 m = nn b) := fun y => q y.2.2
        simp [gv, this]
      · rw [if_neg (by omega), if_neg (by omega)]
  · rintro ⟨x, T⟩ k ⟨e, f, g⟩
    subst e
    simp only at f g
    simp only [m_Standing_give_2]
    have e1 : T 1 1 = nn (nP G) := by rw [f _ _ (by omega), v _ _ (by omega) (by omega), eP]
    simp (disch := omega) only [e1, nn_le]
    rw [if_pos (by omega)]
    refine gt_some ⟨f, fun i j h1 h2 h3 => ?_⟩
    rw [g i j h1 h2 h3]
    by_cases y : j < nP G
    · rw [if_pos y]
    · rw [if_neg y]
      have : ¬ (i = 2 ∧ j < nP G ∧ D 2 j = nn b) := fun z => y z.2.1
      simp [gv, this]
/-- what Bests keeps of an owner's shops -/
def oL (G D : gx_S) (o : Nat) (S : gx_S) : Prop := S 41 5 = nn (cnt G D o) ∧ ∀ k, k < nP G → ow D o k = true → S 42 (cu D o k) = nn k ∧ S 43 (cu D o k) = co G o k
theorem x_listShops {r : Nat} {G D S : gx_S} (h : pX r G D S) (hw : wD G D) (hr : r < 5) {o : Nat} (ho : o < 6) : gt (m_Bests_listShops r (nn o) S) fun T => fB S T ∧ oL G D o T ∧ (∀ k, k < nP G → ow D o k = true → T 45 (cu D o k) = D 1 k) ∧ ∀ j, j ≠ 5 → T 41 j = S 41 j := by
  have v := h.2.2.1.1
  obtain ⟨eP, hP⟩ := wG_P h.1
  have h3 := hw.2.2 o ho
  unfold cnt at h3
  unfold m_Bests_listShops
  refine gt_let ?_
  refine gt_for (nP G) (fun j t => t.1 = nn j ∧ fB S t.2 ∧ t.2 41 5 = nn (cu D o j) ∧ (∀ k, k < j → ow D o k = true → t.2 42 (cu D o k) = nn k ∧ t.2 43 (cu D o k) = co G o k ∧ t.2 45 (cu D o k) = D 1 k) ∧ ∀ j, j ≠ 5 → t.2 41 j = S 41 j) ?_ ?_ 0 5000 _ (by omega) ?_ (by omega)
  · rintro j ⟨x, T⟩ k hj ⟨e, f, g1, g2, g3⟩ hk
    subst e
    simp only at f g1 g2 g3
    simp only [m_Bests_listShops_7, m_Bests_listShops_89]
    have p := pX_f h hr f
    have d : ∀ i j, 1 ≤ i → i ≤ 3 → j < 6 → T (21 + 4 * r + i) j = D i j := p.2.2.2
    have e1 : T 1 1 = nn (nP G) := by rw [p.2.2.1.1 _ _ (by omega) (by omega), eP]
    have hm := cn_mono (ow D o) (m := j) (n := nP G) (by omega)
    have hm' : cu D o j ≤ 3 := Nat.le_trans hm h3
    simp (disch := omega) only [e1, show (3 : Int32) = nn 3 from rfl, g1, nn_le, nn_c, d, nn_s]
    rw [if_neg (by omega)]
    by_cases a : 3 ≤ cu D o j
    · rw [if_pos a]
      have hno : ∀ k, k < nP G → ow D o k = true → k < j := fun k hk ho => by
        rcases Nat.lt_or_ge k j with q | q
        · exact q
        · have := cn_mono (ow D o) q
          have := cn_lt (ow D o) hk ho
          unfold cu at *
          omega
      have hc : cnt G D o = cu D o j := by
        show cu D o (nP G) = _
        unfold cu at *
        omega
      exact gt_some ⟨f, ⟨by rw [g1, hc], fun k h1 h2 => ⟨(g2 k (hno k h1 h2) h2).1, (g2 k (hno k h1 h2) h2).2.1⟩⟩, fun k h1 h2 => (g2 k (hno k h1 h2) h2).2.2, g3⟩
    · rw [if_neg a]
      simp (disch := omega) only [ck_n]
      by_cases q : D 2 j = nn o
      · rw [if_pos q]
        have hq : ow D o j = true := by simp [ow, q]
        have hc : cu D o (j + 1) = cu D o j + 1 := by
          show cn (ow D o) j + (if ow D o j then 1 else 0) = _
          rw [if_pos hq]; rfl
        have p2 : vG G (gx_st T 42 (cu D o j) (nn j)) := vG_f p.2.2.1 (wG_S h.1).2 (fun q j hq => gx_st_q _ _ _ _ (by omega))
        simp (disch := omega) only [let_s, x_costTo p2 ho (k := j), cp_s, gx_st_q, gx_st_eq, d, g1, nn_c, nn_s, ck_n]
        refine hk _ ⟨rfl, ?_, ?_, fun i hi hi2 => ?_, fun i hi => ?_⟩
        · exact fB_st (fB_st (fB_st (fB_st f (by omega) (by omega)) (by omega) (by omega)) (by omega) (by omega)) (by omega) (by omega)
        · simp only [gx_st_eq, hc]
        · rcases Nat.lt_or_ge i j with y | y
          · have := cn_lt (ow D o) y hi2
            have : cu D o i < cu D o j := this
            simp (disch := omega) only [gx_st_q, gx_st_j]
            exact g2 i y hi2
          · have : i = j := by omega
            subst this
            simp (disch := omega) only [gx_st_q, gx_st_eq]
            exact ⟨trivial, trivial, trivial⟩
        · simp (disch := omega) only [gx_st_q, gx_st_j]
          exact g3 i hi
      · rw [if_neg q]
        have hq : ¬ ow D o j = true := by simp [ow, q]
        have hc : cu D o (j + 1) = cu D o j := by
          show cn (ow D o) j + (if ow D o j then 1 else 0) = _
          rw [if_neg hq]; rfl
        refine hk _ ⟨rfl, f, by rw [hc]; exact g1, fun i hi hi2 => ?_, g3⟩
        rcases Nat.lt_or_ge i j with y | y
        · exact g2 i y hi2
        · have : i = j := by omega
          subst this
          exact absurd hi2 hq
  · rintro ⟨x, T⟩ k ⟨e, f, g1, g2, g3⟩
    subst e
    simp only at f g1 g2 g3
    simp only [m_Bests_listShops_7]
    have p := pX_f h hr f
    have e1 : T 1 1 = nn (nP G) := by rw [p.2.2.1.1 _ _ (by omega) (by omega), eP]
    simp (disch := omega) only [e1, nn_le]
    rw [if_pos (by omega)]
    exact gt_some ⟨f, ⟨g1, fun k h1 h2 => ⟨(g2 k h1 h2).1, (g2 k h1 h2).2.1⟩⟩, fun k h1 h2 => (g2 k h1 h2).2.2, g3⟩
  · refine ⟨rfl, fB_st (fB_r S) (by omega) (by omega), gx_st_eq S 41 5 0, fun k hk => absurd hk (by omega), fun j hj => ?_⟩
    simp (disch := omega) only [gx_st_j]
