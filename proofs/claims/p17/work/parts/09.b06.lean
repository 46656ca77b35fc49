/-! b06: levels: the first own shops priced -/
theorem z_c : (0 : Int32).toNatClampNeg = 0 := rfl
theorem bw_mul : ∀ i, i < 6 → ∀ j, j < 10 → bw (nn i * nn j) 0 45 := by unfold bw; decide +kernel
theorem ab_n : ∀ i, i < 10 → ∀ j, j < 10 → ab (nn i - nn j) = nn (if j ≤ i then i - j else j - i) := by decide +kernel
theorem bes_b {G : gx_S} (h : wG G) (s k : Nat) : bw (bes G s k) (-9) 45 := by
  obtain ⟨h1, h2, h3, h4, h5, h6⟩ := h.2.2.2 s
  obtain ⟨a, ha⟩ := bw_n (n := 9) (by decide) h1
  obtain ⟨b, hb⟩ := bw_n (n := 9) (by decide) (h.2.2.1 k).1
  obtain ⟨c, hc⟩ := bw_n (n := 5) (by decide) h3
  unfold bes
  rw [a, b, c, ab_n _ (by omega) _ (by omega)]
  have hm := bw_mul (G 8 s).toNatClampNeg (by omega) (if (G 4 k).toNatClampNeg ≤ (G 6 s).toNatClampNeg then (G 6 s).toNatClampNeg - (G 4 k).toNatClampNeg else (G 4 k).toNatClampNeg - (G 6 s).toNatClampNeg) (by split <;> omega)
  have h6a := h6.1
  have h6b := h6.2
  have hma := hm.1
  have hmb := hm.2
  constructor
  · split <;> lia
  · split <;> lia
def ist (G D : gx_S) (o : Nat) (τ : Nat → Int32) (s k : Nat) : Int32 := (if ow D o k then τ (cu D o k) else D 1 k) + bes G s k
def lM (G D : gx_S) (o l k : Nat) : Prop := if ow D o k = true then cu D o k < l else opn G D k = true
def er (G D : gx_S) (o : Nat) (τ : Nat → Int32) (c : Int32) : Int32 := if c = -1 then 0 else if ow D o c.toNatClampNeg = true then τ (cu D o c.toNatClampNeg) - co G o c.toNatClampNeg else 0
/-- what level l holds: the choice of each sort with the first l own shops priced by τ -/
def lv (G D : gx_S) (o : Nat) (τ : Nat → Int32) (l : Nat) (S : gx_S) : Prop := ∀ s, s < nS G → isC (lM G D o l) (ist G D o τ s) (G 9 s) (nP G) (S (47 + l) s) (S (52 + l) s) ∧ S (57 + l) s = er G D o τ (S (52 + l) s)
def opo (G D : gx_S) (o k : Nat) : Bool := !ow D o k && opn G D k
def ch0 (G D : gx_S) (o s j : Nat) : Int32 × Int32 := chN (isv G D s) (opo G D o) (G 9 s) j
theorem x_layOthers {r : Nat} {G D S : gx_S} (h : pX r G D S) (hr : r < 5) (o : Nat) : gt (m_Bests_layOthers r (nn o) S) fun T => (∀ q j, q ≠ 47 → q ≠ 52 → q ≠ 57 → T q j = S q j) ∧ ∀ s, s < nS G → T 47 s = (ch0 G D o s (nP G)).2 ∧ T 52 s = (ch0 G D o s (nP G)).1 ∧ T 57 s = 0 := by
  have v := h.2.2.1.1
  obtain ⟨eP, hP⟩ := wG_P h.1
  obtain ⟨eS, hS⟩ := wG_S h.1
  unfold m_Bests_layOthers
  refine gt_for (nS G) (fun s t => t.1 = nn s ∧ (∀ q j, q ≠ 47 → q ≠ 52 → q ≠ 57 → t.2 q j = S q j) ∧ ∀ i, i < s → t.2 47 i = (ch0 G D o i (nP G)).2 ∧ t.2 52 i = (ch0 G D o i (nP G)).1 ∧ t.2 57 i = 0) ?_ ?_ 0 5000 _ (by omega) ⟨rfl, fun _ _ _ _ _ => rfl, fun i hi => absurd hi (by omega)⟩ (by omega)
  · rintro s ⟨x, T⟩ k2 hs ⟨e, f, g⟩ hk2
    subst e
    simp only at f g
    simp only [m_Bests_layOthers_2]
    have e1 : T 1 2 = nn (nS G) := by rw [f _ _ (by omega) (by omega) (by omega), v _ _ (by omega) (by omega), eS]
    have e2 : T 9 s = G 9 s := by rw [f _ _ (by omega) (by omega) (by omega), v _ _ (by omega) (by omega)]
    simp (disch := omega) only [e1, e2, nn_le, nn_c, ck_n, ck_0, z_c, let_s, nn_s, Nat.add_zero]
    rw [if_neg (by omega)]
    refine gt_for (nP G) (fun j t => t.1 = nn j ∧ (∀ q j, q ≠ 47 → q ≠ 52 → q ≠ 57 → t.2 q j = S q j) ∧ (∀ i, i < s → t.2 47 i = (ch0 G D o i (nP G)).2 ∧ t.2 52 i = (ch0 G D o i (nP G)).1 ∧ t.2 57 i = 0) ∧ t.2 47 s = (ch0 G D o s j).2 ∧ t.2 52 s = (ch0 G D o s j).1 ∧ t.2 57 s = 0) ?_ ?_ 0 5000 _ (by omega) ⟨rfl, fun q j h1 h2 h3 => ?_, fun i hi => ?_, ?_⟩ (by omega)
    · rintro j ⟨x, T⟩ k hj ⟨e, f, g, g1, g2, g3⟩ hk
      subst e
      simp only at f g g1 g2 g3
      simp only [m_Bests_layOthers_53, m_Bests_layOthers_127]
      have p : pX r G D T := ⟨h.1, h.2.1, vG_f h.2.2.1 hS (fun q j hq => f q j (by omega) (by omega) (by omega)), vD_f h.2.2.2 (fun q j h1 h2 => f q j (by omega) (by omega) (by omega))⟩
      have d : ∀ i j, 1 ≤ i → i ≤ 3 → j < 6 → T (21 + 4 * r + i) j = D i j := p.2.2.2
      have e1 : T 1 1 = nn (nP G) := by rw [p.2.2.1.1 _ _ (by omega) (by omega), eP]
      simp (disch := omega) only [e1, g1, nn_le, nn_c, ck_n, ck_0, z_c, let_s, nn_s, Nat.add_zero, x_whatIs p hs hj, cp_s, x_isOpen p (k := j) (by omega), ib_0, d]
      rw [if_neg (by omega)]
      have ec : ch0 G D o s (j + 1) = if isv G D s j < (ch0 G D o s j).2 ∧ opo G D o j = true then (nn j, isv G D s j) else ch0 G D o s j := rfl
      by_cases a : (ch0 G D o s j).2 ≤ isv G D s j
      · rw [if_pos a]
        rw [if_neg (by rintro ⟨q, _⟩; lia)] at ec
        exact hk _ ⟨rfl, f, g, by rw [ec]; exact ⟨g1, g2, g3⟩⟩
      · rw [if_neg a]
        by_cases b : D 2 j = nn o
        · rw [if_pos b]
          rw [if_neg (by rintro ⟨_, q⟩; simp [opo, ow, b] at q)] at ec
          exact hk _ ⟨rfl, f, g, by rw [ec]; exact ⟨g1, g2, g3⟩⟩
        · rw [if_neg b]
          by_cases c : opn G D j = false
          · rw [if_pos c]
            rw [if_neg (by rintro ⟨_, q⟩; simp [opo, c] at q)] at ec
            exact hk _ ⟨rfl, f, g, by rw [ec]; exact ⟨g1, g2, g3⟩⟩
          · rw [if_neg c]
            rw [if_pos ⟨by lia, by simp [opo, ow, b, c]⟩] at ec
            refine hk _ ⟨rfl, fun q i h1 h2 h3 => ?_, fun i hi => ?_, ?_⟩
            · simp (disch := omega) only [gx_st_q]
              exact f q i h1 h2 h3
            · simp (disch := omega) only [gx_st_q, gx_st_j]
              exact g i hi
            · simp (disch := omega) only [gx_st_q, gx_st_eq, ec]
              exact ⟨trivial, trivial, g3⟩
    · rintro ⟨x, T⟩ k ⟨e, f, g, g1, g2, g3⟩
      subst e
      simp only at f g g1 g2 g3
      simp only [m_Bests_layOthers_53]
      have e1 : T 1 1 = nn (nP G) := by rw [f _ _ (by omega) (by omega) (by omega), v _ _ (by omega) (by omega), eP]
      simp (disch := omega) only [e1, nn_le, nn_s]
      rw [if_pos (by omega)]
      refine hk2 _ ⟨rfl, f, fun i hi => ?_⟩
      rcases Nat.lt_or_ge i s with q | q
      · exact g i q
      · have : i = s := by omega
        subst this
        exact ⟨g1, g2, g3⟩
    · simp (disch := omega) only [gx_st_q]
      exact f q j h1 h2 h3
    · simp (disch := omega) only [gx_st_q, gx_st_j]
      exact g i hi
    · simp (disch := omega) only [gx_st_q, gx_st_eq]
      exact ⟨rfl, rfl, trivial⟩
  · rintro ⟨x, T⟩ k ⟨e, f, g⟩
    subst e
    simp only at f g
    simp only [m_Bests_layOthers_2]
    have e1 : T 1 2 = nn (nS G) := by rw [f _ _ (by omega) (by omega) (by omega), v _ _ (by omega) (by omega), eS]
    simp (disch := omega) only [e1, nn_le]
    rw [if_pos (by omega)]
    exact gt_some ⟨f, g⟩
theorem lv_0 {G D T : gx_S} {o : Nat} (hG : wG G) (g : ∀ s, s < nS G → T 47 s = (ch0 G D o s (nP G)).2 ∧ T 52 s = (ch0 G D o s (nP G)).1 ∧ T 57 s = 0) (τ : Nat → Int32) : lv G D o τ 0 T := by
  intro s hs
  obtain ⟨e1, e2, e3⟩ := g s hs
  have hP := (wG_P hG).2
  show isC _ _ _ _ (T 47 s) (T 52 s) ∧ T 57 s = er G D o τ (T 52 s)
  rw [e1, e2, e3]
  have c := chN_isC (isv G D s) (opo G D o) (G 9 s) (nP G)
  refine ⟨isC_cg c (fun j hj => ?_) (fun j hj hm => ?_), ?_⟩
  · unfold lM opo
    cases ow D o j <;> simp
  · unfold ist isv
    have : ow D o j = false := by
      unfold opo at hm
      cases hq : ow D o j
      · rfl
      · rw [hq] at hm; simp at hm
    rw [this]
    rfl
  · rcases c with ⟨a, _⟩ | ⟨i, hi, a, _, b, _⟩
    · show 0 = er G D o τ (chN (isv G D s) (opo G D o) (G 9 s) (nP G)).1
      rw [a]; rfl
    · show 0 = er G D o τ (chN (isv G D s) (opo G D o) (G 9 s) (nP G)).1
      rw [a]
      have : ow D o i = false := by
        unfold opo at b
        cases hq : ow D o i
        · rfl
        · rw [hq] at b; simp at b
      unfold er
      rw [if_neg (nn_m1 (by omega)), nn_c (by omega), if_neg (by simp [this])]
theorem isC_add {M M' : Nat → Prop} {is : Nat → Int32} {w : Int32} {n k : Nat} {l c : Int32} (hn : n < 2147483648) (h : isC M is w n l c) (hk : k < n) (hM : ∀ j, j < n → (M' j ↔ M j ∨ j = k)) (hno : ¬ M k) : isC M' is w n (if is k < l ∨ is k = l ∧ nn k < c then is k else l) (if is k < l ∨ is k = l ∧ nn k < c then nn k else c) := by
  have hk1 : ¬ nn k < -1 := by
    rw [Int32.lt_iff_toInt_lt, nn_i (by omega)]
    have : (-1 : Int32).toInt = -1 := by decide
    omega
  rcases h with ⟨e1, e2, a⟩ | ⟨i, h1, e1, e2, h2, h3, a⟩
  · by_cases q : is k < l ∨ is k = l ∧ nn k < c
    · rw [if_pos q, if_pos q]
      have q' : is k < w + 1 := by
        rcases q with q | q
        · rw [← e2]; exact q
        · rw [e1] at q; exact absurd q.2 hk1
      refine Or.inr ⟨k, hk, rfl, rfl, (hM k hk).mpr (Or.inr rfl), q', fun j hj hm => ?_⟩
      rcases (hM j hj).mp hm with y | y
      · have := a j hj y
        exact ⟨by lia, fun _ => by lia⟩
      · subst y
        exact ⟨Int32.le_refl _, fun q => absurd q (by omega)⟩
    · rw [if_neg q, if_neg q]
      refine Or.inl ⟨e1, e2, fun j hj hm => ?_⟩
      rcases (hM j hj).mp hm with y | y
      · exact a j hj y
      · subst y
        have : ¬ is j < l := fun z => q (Or.inl z)
        lia
  · have hik : i ≠ k := fun z => hno (z ▸ h2)
    by_cases q : is k < l ∨ is k = l ∧ nn k < c
    · rw [if_pos q, if_pos q]
      have q' : is k < is i ∨ is k = is i ∧ k < i := by
        rw [e2, e1, nn_lt (by omega) (by omega)] at q
        exact q
      refine Or.inr ⟨k, hk, rfl, rfl, (hM k hk).mpr (Or.inr rfl), by rcases q' with q | q <;> lia, fun j hj hm => ?_⟩
      rcases (hM j hj).mp hm with y | y
      · have b := a j hj y
        have b1 := b.1
        refine ⟨by rcases q' with q | q <;> lia, fun z => ?_⟩
        rcases q' with q | q
        · lia
        · have := b.2 (by omega)
          lia
      · subst y
        exact ⟨Int32.le_refl _, fun q => absurd q (by omega)⟩
    · rw [if_neg q, if_neg q]
      have q' : ¬ (is k < is i ∨ is k = is i ∧ k < i) := by
        rw [e2, e1, nn_lt (by omega) (by omega)] at q
        exact q
      refine Or.inr ⟨i, h1, e1, e2, (hM i h1).mpr (Or.inl h2), h3, fun j hj hm => ?_⟩
      rcases (hM j hj).mp hm with y | y
      · exact a j hj y
      · subst y
        have y1 : ¬ is j < is i := fun z => q' (Or.inl z)
        refine ⟨by lia, fun z => ?_⟩
        have y2 : ¬ is j = is i := fun y => q' (Or.inr ⟨y, z⟩)
        lia
