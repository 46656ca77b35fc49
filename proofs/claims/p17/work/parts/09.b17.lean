/-! b17: the reference's turns, rounds, what is held -/
theorem u_turnOf {G D S : gx_S} (h : pU G D (-1) S) (hw : wD G D) {o : Nat} (ho : o < 6) : gt (n_turnOf (nn o) S) fun t => t.1 = nch G D o ∧ fL S t.2 ∧ pU G (tk G D o) (-1) t.2 := by
  have hG := h.1
  obtain ⟨eP, hP⟩ := wG_P hG
  unfold n_turnOf
  refine gt_cp (u_layBest h hw ho) (fun T0 hT0 => ?_)
  obtain ⟨f0, d0, b0, i0, _⟩ := hT0
  have p0 : pU G D (-1) T0 := pU_L h f0 (wD_0 hw) d0
  have hu := p0.2.2.1
  have k1 : T0 1 o = G 2 o := (hu.2.1 o ho).1
  have hno : ∀ k, ¬ k < nP G → bP G D o k = D 1 k := fun k hk => by
    unfold bP
    rw [if_neg (fun z => hk z.1)]
  refine gt_for (nP G) (fun j t => t.1 = sm (fun k => if D 1 k = bP G D o k then 0 else 1) j ∧ t.2.1 = nn j ∧ (∀ q i, q ≠ 7 → t.2.2 q i = T0 q i) ∧ ∀ i, i < 6 → t.2.2 7 i = if i < j then bP G D o i else D 1 i) ?_ ?_ 0 5000 _ (by omega) ?_ (by omega)
  · rintro j ⟨x2, x3, T⟩ k hj ⟨rfl, rfl, f, g⟩ hk
    simp only at f g
    simp only [n_turnOf_9, n_turnOf_38]
    have e1 : T 0 4 = nn (nP G) := by rw [f _ _ (by omega), hu.1.2.1, eP]
    have e7 : T 7 j = D 1 j := by rw [g j (by omega), if_neg (by omega)]
    have e16 : T 16 j = bP G D o j := by rw [f _ _ (by omega)]; exact b0 j hj
    simp (disch := omega) only [e1, nn_le, nn_c, ck_n, let_s, nn_s, e7, e16]
    rw [if_neg (by omega)]
    have nx : ∀ x, x = (if D 1 j = bP G D o j then 0 else 1) → gt (k (sm (fun k => if D 1 k = bP G D o k then 0 else 1) j + x, nn (j + 1), gx_st T 7 j (bP G D o j))) fun t => t.1 = nch G D o ∧ fL S t.2 ∧ pU G (tk G D o) (-1) t.2 := fun x hx => by
      refine hk _ ⟨by rw [hx]; rfl, rfl, fun q i hq => ?_, fun i hi => ?_⟩
      · simp only
        rw [gx_st_q _ _ _ _ hq]; exact f q i hq
      · simp only
        by_cases z : i = j
        · subst z; rw [gx_st_eq, if_pos (by omega)]
        · rw [gx_st_j _ _ _ z, g i hi]
          by_cases y : i < j
          · rw [if_pos y, if_pos (by omega)]
          · rw [if_neg y, if_neg (by omega)]
    by_cases q : D 1 j = bP G D o j
    · rw [if_pos q]
      exact nx _ (by rw [if_pos q])
    · rw [if_neg q]
      exact nx _ (by rw [if_neg q])
  · rintro ⟨x2, x3, T⟩ k ⟨rfl, rfl, f, g⟩
    simp only at f g
    simp only [n_turnOf_9, n_turnOf_86, n_turnOf_87, n_turnOf_115]
    have e1 : T 0 4 = nn (nP G) := by rw [f _ _ (by omega), hu.1.2.1, eP]
    have e2 : T 1 o = G 2 o := by rw [f _ _ (by omega)]; exact k1
    have e3 : T 3 o = D 3 o := by rw [f _ _ (by omega)]; exact (d0 o ho).2.2
    have e26 : T 0 26 = bI G D o := by rw [f _ _ (by omega)]; exact i0
    simp (disch := omega) only [e1, nn_le, nn_c, ck_n, let_s, e2, e3, e26]
    rw [if_pos (by omega), nar_b (Or.inl rfl), nar_b (Or.inr rfl)]
    have nx : ∀ x b, x = (if D 3 o = bI G D o then 0 else 1) → b = bI G D o → gt (some (sm (fun k => if D 1 k = bP G D o k then 0 else 1) (nP G) + x, gx_st T 3 o b)) fun t => t.1 = nch G D o ∧ fL S t.2 ∧ pU G (tk G D o) (-1) t.2 := fun x b hx hb => by
      have fU : fL S (gx_st T 3 o b) := fun q j a1 a2 a3 a4 a5 a6 => by
        rw [gx_st_q _ _ _ _ a1, f q j a2]; exact f0 q j a1 a2 a3 a4 a5 a6
      refine gt_some ⟨by rw [hx]; rfl, fU, pU_L h fU (fun j hj => by rw [tk_2]; exact wD_0 hw j hj) (fun j hj => ⟨?_, ?_, ?_⟩)⟩
      · show gx_st T 3 o b 7 j = _
        rw [gx_st_q _ _ _ _ (by omega), tk_1, g j hj]
        by_cases y : j < nP G
        · rw [if_pos y]
        · rw [if_neg y, hno j y]
      · show gx_st T 3 o b 4 j = _
        rw [gx_st_q _ _ _ _ (by omega), tk_2, f _ _ (by omega)]; exact (d0 j hj).2.1
      · show gx_st T 3 o b 3 j = _
        rw [tk_3]
        by_cases z : j = o
        · subst z; rw [gx_st_eq, if_pos rfl]; exact hb
        · rw [gx_st_j _ _ _ z, if_neg z, f _ _ (by omega)]; exact (d0 j hj).2.2
    by_cases q4 : G 2 o = 4
    · rw [if_pos q4]
      rcases bI_01 G D o with e | e
      · by_cases y : D 3 o = bI G D o
        · rw [if_pos y, if_pos q4, if_pos e]
          exact nx _ _ (by rw [if_pos y]) e.symm
        · rw [if_neg y, if_pos q4, if_pos e]
          exact nx _ _ (by rw [if_neg y]) e.symm
      · by_cases y : D 3 o = bI G D o
        · rw [if_pos y, if_pos q4, if_neg (by rw [e]; decide)]
          exact nx _ _ (by rw [if_pos y]) e.symm
        · rw [if_neg y, if_pos q4, if_neg (by rw [e]; decide)]
          exact nx _ _ (by rw [if_neg y]) e.symm
    · rw [if_neg q4, if_neg q4]
      have e : bI G D o = 0 := if_neg (fun w => q4 w.1)
      have e' : D 3 o = 0 := by
        rcases (hw.1 o ho).2.2 with y | y
        · exact y
        · exact absurd y.2 q4
      exact nx _ _ (by rw [if_pos (by rw [e, e'])]) e.symm
  · refine ⟨rfl, rfl, fun _ _ _ => rfl, fun i hi => ?_⟩
    rw [if_neg (by omega)]; exact (d0 i hi).1
theorem u_goOn {G D S : gx_S} (h : pU G D (-1) S) (hw : wD G D) : gt (n_goOn S) fun t => t.1 = (ste G D).1 ∧ fL S t.2 ∧ pU G (ste G D).2 (-1) t.2 := by
  have hG := h.1
  obtain ⟨eO, hO⟩ := wG_O hG
  unfold n_goOn
  refine gt_for 20 (fun j t => t.1 = nn j ∧ ∃ D', stl G (20 - j) j D' = ste G D ∧ fL S t.2 ∧ pU G D' (-1) t.2 ∧ wD G D') ?_ ?_ 0 5000 _ (by omega) ⟨rfl, D, rfl, fL_r S, h, hw⟩ (by omega)
  · rintro j ⟨x, T⟩ k2 hj ⟨rfl, D', e, f, d, w⟩ hk2
    simp only at e f d
    simp only [n_goOn_2]
    rw [if_neg (by rw [show (20 : Int32) = nn 20 from rfl, nn_le (by omega) (by omega)]; omega)]
    refine gt_for (nO G) (fun i t => t.1 = (rnd G i D').1 ∧ t.2.1 = nn i ∧ fL S t.2.2 ∧ pU G (rnd G i D').2 (-1) t.2.2) ?_ ?_ 0 5000 _ (by omega) ?_ (by omega)
    · rintro i ⟨x3, x4, U⟩ k hi ⟨rfl, rfl, f, p⟩ hk
      simp only at f p
      have wi := wD_rnd hG i w
      simp only [n_goOn_12]
      have e1 : U 0 0 = nn (nO G) := by rw [p.2.2.1.1.1, eO]
      simp (disch := omega) only [e1, nn_le, nn_s]
      rw [if_neg (by omega)]
      refine gt_cs (u_turnOf p wi (o := i) (by omega)) (fun a W hW => ?_)
      obtain ⟨w1, w2, w3⟩ := hW
      simp only at w1 w2 w3
      exact hk _ ⟨by rw [w1]; rfl, rfl, fL_t f w2, w3⟩
    · rintro ⟨x3, x4, U⟩ k ⟨rfl, rfl, f, p⟩
      simp only at f p
      have wi := wD_rnd hG (nO G) w
      simp only [n_goOn_12]
      have e1 : U 0 0 = nn (nO G) := by rw [p.2.2.1.1.1, eO]
      simp (disch := omega) only [e1, nn_le, nn_s]
      rw [if_pos (by omega)]
      obtain ⟨m, hm⟩ : ∃ m, 20 - j = m + 1 := ⟨20 - j - 1, by omega⟩
      rw [hm] at e
      have e' : (if (rnd G (nO G) D').1 = 0 then (nn j, (rnd G (nO G) D').2) else stl G m (j + 1) (rnd G (nO G) D').2) = ste G D := e
      by_cases q : (rnd G (nO G) D').1 = 0
      · rw [if_pos q] at e' ⊢
        exact gt_some ⟨by rw [← e'], f, by rw [← e']; exact p⟩
      · rw [if_neg q] at e' ⊢
        refine hk2 _ ⟨rfl, _, ?_, f, p, wi⟩
        rw [show 20 - (j + 1) = m by omega]
        exact e'
    · exact ⟨rfl, rfl, f, d⟩
  · rintro ⟨x, T⟩ k2 ⟨rfl, D', e, f, d, w⟩
    simp only at e f d
    simp only [n_goOn_2]
    rw [if_pos (by decide)]
    have e' : ((-1 : Int32), D') = ste G D := e
    exact gt_some ⟨by rw [← e'], f, by rw [← e']; exact d⟩
/-- D is held -/
def hH (D T : gx_S) : Prop := ∀ j, j < 6 → T 18 j = D 1 j ∧ T 19 j = D 2 j ∧ T 20 j = D 3 j
theorem u_hold {G D S : gx_S} {sh : Int32} (h : pU G D sh S) (hw : wD G D) : gt (n_hold S) fun T => (∀ q j, q ≠ 18 → q ≠ 19 → q ≠ 20 → T q j = S q j) ∧ hH D T := by
  have hd := h.2.2.2.1
  unfold n_hold
  refine gt_for 6 (fun j t => t.1 = nn j ∧ (∀ q j, q ≠ 18 → q ≠ 19 → q ≠ 20 → t.2 q j = S q j) ∧ ∀ i, i < j → t.2 18 i = D 1 i ∧ t.2 19 i = D 2 i ∧ t.2 20 i = D 3 i) ?_ ?_ 0 5000 _ (by omega) ⟨rfl, fun _ _ _ _ _ => rfl, fun i hi => absurd hi (by omega)⟩ (by omega)
  · rintro j ⟨x, T⟩ k hj ⟨rfl, f, g⟩ hk
    simp only at f g
    simp only [n_hold_2]
    obtain ⟨d1, d2, d3⟩ := hd j hj
    have e7 : T 7 j = D 1 j := by rw [f _ _ (by omega) (by omega) (by omega)]; exact d1
    have e4 : T 4 j = D 2 j := by rw [f _ _ (by omega) (by omega) (by omega)]; exact d2
    have e3 : T 3 j = D 3 j := by rw [f _ _ (by omega) (by omega) (by omega)]; exact d3
    simp (disch := omega) only [show (6 : Int32) = nn 6 from rfl, nn_le, nn_c, ck_n, let_s, nn_s, e7, e4, e3, gx_st_q]
    rw [if_neg (by omega), nar_b (wD_1 hw hj)]
    refine hk _ ⟨rfl, fun q i h1 h2 h3 => ?_, fun i hi => ?_⟩
    · simp (disch := omega) only [gx_st_q]
      exact f q i h1 h2 h3
    · by_cases z : i = j
      · subst z
        simp (disch := omega) only [gx_st_q, gx_st_eq]
        exact ⟨trivial, trivial, trivial⟩
      · simp (disch := omega) only [gx_st_q, gx_st_j]
        exact g i (by omega)
  · rintro ⟨x, T⟩ k ⟨rfl, f, g⟩
    simp only at f g
    simp only [n_hold_2]
    rw [if_pos (by decide)]
    exact gt_some ⟨f, g⟩
theorem u_back {G D S : gx_S} (hw : wD G D) (hh : hH D S) : gt (n_back S) fun T => (∀ q j, q ≠ 3 → q ≠ 4 → q ≠ 7 → T q j = S q j) ∧ uD D T := by
  unfold n_back
  refine gt_for 6 (fun j t => t.1 = nn j ∧ (∀ q j, q ≠ 3 → q ≠ 4 → q ≠ 7 → t.2 q j = S q j) ∧ ∀ i, i < j → t.2 7 i = D 1 i ∧ t.2 4 i = D 2 i ∧ t.2 3 i = D 3 i) ?_ ?_ 0 5000 _ (by omega) ⟨rfl, fun _ _ _ _ _ => rfl, fun i hi => absurd hi (by omega)⟩ (by omega)
  · rintro j ⟨x, T⟩ k hj ⟨rfl, f, g⟩ hk
    simp only at f g
    simp only [n_back_2]
    obtain ⟨d1, d2, d3⟩ := hh j hj
    have e7 : T 18 j = D 1 j := by rw [f _ _ (by omega) (by omega) (by omega)]; exact d1
    have e4 : T 19 j = D 2 j := by rw [f _ _ (by omega) (by omega) (by omega)]; exact d2
    have e3 : T 20 j = D 3 j := by rw [f _ _ (by omega) (by omega) (by omega)]; exact d3
    simp (disch := omega) only [show (6 : Int32) = nn 6 from rfl, nn_le, nn_c, ck_n, let_s, nn_s, e7, e4, e3, gx_st_q]
    rw [if_neg (by omega), nar_b (wD_1 hw hj)]
    refine hk _ ⟨rfl, fun q i h1 h2 h3 => ?_, fun i hi => ?_⟩
    · simp (disch := omega) only [gx_st_q]
      exact f q i h1 h2 h3
    · by_cases z : i = j
      · subst z
        simp (disch := omega) only [gx_st_q, gx_st_eq]
        exact ⟨trivial, trivial, trivial⟩
      · simp (disch := omega) only [gx_st_q, gx_st_j]
        exact g i (by omega)
  · rintro ⟨x, T⟩ k ⟨rfl, f, g⟩
    simp only at f g
    simp only [n_back_2]
    rw [if_pos (by decide)]
    exact gt_some ⟨f, g⟩
/-- the wider frame: all that lasts but the standing -/
def fM (S T : gx_S) : Prop := ∀ q j, q ≠ 3 → q ≠ 4 → q ≠ 7 → (q < 15 ∨ 25 < q) → (q ≠ 0 ∨ (j ≠ 26 ∧ j ≠ 27 ∧ j ≠ 34)) → T q j = S q j
theorem fM_r (S : gx_S) : fM S S := fun _ _ _ _ _ _ _ => rfl
theorem fM_t {S T U : gx_S} (h : fM S T) (h' : fM T U) : fM S U := fun q j a1 a2 a3 a4 a5 => (h' q j a1 a2 a3 a4 a5).trans (h q j a1 a2 a3 a4 a5)
theorem fL_M {S T : gx_S} (f : fL S T) : fM S T := fun q j a1 a2 a3 a4 a5 => f q j a1 a3 (by omega) (by omega) (by omega) (by omega)
theorem f15_M {S T : gx_S} (f : f15 S T) : fM S T := fun q j a1 a2 a3 a4 a5 => f q j (by omega)
theorem pU_M {G D E S T : gx_S} {sh : Int32} (h : pU G D sh S) (f : fM S T) (h0 : w0 E) (hd : uD E T) : pU G E sh T := by
  obtain ⟨hG, _, ⟨⟨a1, a2, a3⟩, b, c, d⟩, _, e⟩ := h
  refine ⟨hG, h0, ⟨⟨?_, ?_, ?_⟩, fun o ho => ?_, fun k hk => ?_, fun s i hs hi => ?_⟩, hd, ?_⟩
  · rw [f _ _ (by omega) (by omega) (by omega) (by omega) (by omega)]; exact a1
  · rw [f _ _ (by omega) (by omega) (by omega) (by omega) (by omega)]; exact a2
  · rw [f _ _ (by omega) (by omega) (by omega) (by omega) (by omega)]; exact a3
  · rw [f _ _ (by omega) (by omega) (by omega) (by omega) (by omega), f _ _ (by omega) (by omega) (by omega) (by omega) (by omega)]; exact b o ho
  · rw [f _ _ (by omega) (by omega) (by omega) (by omega) (by omega), f _ _ (by omega) (by omega) (by omega) (by omega) (by omega)]; exact c k hk
  · rw [f _ _ (by omega) (by omega) (by omega) (by omega) (by omega)]; exact d s i hs hi
  · rw [f _ _ (by omega) (by omega) (by omega) (by omega) (by omega)]; exact e
theorem u_gainOf {G D S : gx_S} (h : pU G D (-1) S) (hw : wD G D) {o : Nat} (ho : o < 6) : gt (n_gainOf (nn o) S) fun t => t.1 = bG G D o - pro G D o ∧ fM S t.2 ∧ pU G D (-1) t.2 := by
  unfold n_gainOf
  refine gt_cs (u_profitOf h ho) (fun a T hT => ?_)
  obtain ⟨ea, f⟩ := hT
  simp only at ea f
  have p := pU_15 h f
  refine gt_cp (u_layBest p hw ho) (fun U hU => ?_)
  obtain ⟨u1, u2, _, _, u5⟩ := hU
  exact gt_some ⟨by rw [u5, ea], fM_t (f15_M f) (fL_M u1), pU_L p u1 (wD_0 hw) u2⟩
def oth (G D : gx_S) : Nat → Nat → Int32
  | 0, _ => -1
  | f + 1, o => if bG G D o - pro G D o ≤ 0 then oth G D f (o + 1) else nn o
theorem u_otherwise {G D S : gx_S} (h : pU G D (-1) S) (hw : wD G D) : gt (n_otherwise S) fun t => t.1 = oth G D (nO G) 0 ∧ fM S t.2 ∧ pU G D (-1) t.2 := by
  have hG := h.1
  obtain ⟨eO, hO⟩ := wG_O hG
  unfold n_otherwise
  refine gt_for (nO G) (fun j t => t.1 = nn j ∧ oth G D (nO G - j) j = oth G D (nO G) 0 ∧ fM S t.2 ∧ pU G D (-1) t.2) ?_ ?_ 0 5000 _ (by omega) ⟨rfl, rfl, fM_r S, h⟩ (by omega)
  · rintro j ⟨x, T⟩ k hj ⟨rfl, e, f, p⟩ hk
    simp only at e f p
    simp only [n_otherwise_2]
    have e1 : T 0 0 = nn (nO G) := by rw [p.2.2.1.1.1, eO]
    simp (disch := omega) only [e1, nn_le, nn_s]
    rw [if_neg (by omega)]
    refine gt_cs (u_gainOf p hw (o := j) (by omega)) (fun a U hU => ?_)
    obtain ⟨u1, u2, u3⟩ := hU
    simp only at u1 u2 u3
    obtain ⟨m, hm⟩ : ∃ m, nO G - j = m + 1 := ⟨nO G - j - 1, by omega⟩
    rw [hm] at e
    have e' : (if bG G D j - pro G D j ≤ 0 then oth G D m (j + 1) else nn j) = oth G D (nO G) 0 := e
    rw [u1]
    by_cases q : bG G D j - pro G D j ≤ 0
    · rw [if_pos q] at e' ⊢
      refine hk _ ⟨rfl, ?_, fM_t f u2, u3⟩
      rw [show nO G - (j + 1) = m by omega]; exact e'
    · rw [if_neg q] at e' ⊢
      exact gt_some ⟨e', fM_t f u2, u3⟩
  · rintro ⟨x, T⟩ k ⟨rfl, e, f, p⟩
    simp only at e f p
    simp only [n_otherwise_2]
    have e1 : T 0 0 = nn (nO G) := by rw [p.2.2.1.1.1, eO]
    simp (disch := omega) only [e1, nn_le]
    rw [if_pos (by omega)]
    rw [Nat.sub_self] at e
    exact gt_some ⟨e, f, p⟩
