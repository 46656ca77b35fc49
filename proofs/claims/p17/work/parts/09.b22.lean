/-! b22: what two owners weigh -/
def so (G D : gx_S) (o : Nat) : Int32 := sm (fun s => if cho G D s (-1) = -1 then 0 else if wh D (cho G D s (-1)).toNatClampNeg = o then G 7 s else 0) (nS G)
def hu (x al : Int32) : Int32 := if al ≤ 0 then 0 else (100 * x) / al
def ldc (G D : gx_S) (a b k i : Nat) : Bool := ow D a k && ow D b i && opn G D k && opn G D i
def ldi (G D : gx_S) (a b k : Nat) (l : Int32) : Nat → Int32
  | 0 => l
  | i + 1 => if ldc G D a b k i = true ∧ ab (G 4 k - G 4 i) < ldi G D a b k l i then ab (G 4 k - G 4 i) else ldi G D a b k l i
def ldo (G D : gx_S) (a b : Nat) : Nat → Int32
  | 0 => 99
  | k + 1 => ldi G D a b k (ldo G D a b k) (nP G)
def sel (G D : gx_S) (a b : Nat) : Int32 := (if so G D a ≤ 0 then 0 else if so G D b ≤ 0 then 0 else -1) + sm (fun o => if so G D o ≤ 0 then 0 else 1) (nO G)
def val (G D : gx_S) (a b c : Nat) : Int32 := if c = 115 then hu (so G D a + so G D b) (all G D) else if c = 114 then 2 * hu (so G D a) (all G D) * hu (so G D b) (all G D) else if c = 111 then sel G D a b else ldo G D a b (nP G)
theorem so_sl {G D : gx_S} (hG : wG G) (o : Nat) : so G D o = sm (fun k => sl G D k * (if wh D k = o then 1 else 0)) (nP G) := by
  rw [← tot_sl hG]
  refine sm_cg (fun s hs => ?_)
  rw [sx_d]
  split
  · rfl
  · split
    · rw [Int32.mul_one]
    · rw [Int32.mul_zero]
theorem all_sl {G D : gx_S} (hG : wG G) : all G D = sm (fun k => sl G D k) (nP G) := by
  have : all G D = tot G D (fun _ => 1) := by
    refine sm_cg (fun s hs => ?_)
    rw [sx_d, Int32.mul_one]
  rw [this, tot_sl hG]
  exact sm_cg (fun k _ => Int32.mul_one _)
theorem all_so {G D : gx_S} (hG : wG G) (hw : ∀ k, k < nP G → wh D k < nO G) : sm (fun o => so G D o) (nO G) = all G D := by
  rw [all_sl hG, sm_cg (fun o _ => so_sl hG o), sm_swap]
  refine sm_cg (fun k hk => ?_)
  rw [sm_cg (g := fun o => if o = wh D k then sl G D k else 0) (fun o _ => ?_), sm_one, if_pos (hw k hk)]
  by_cases z : o = wh D k
  · rw [if_pos z.symm, if_pos z, Int32.mul_one]
  · rw [if_neg (fun y => z y.symm), if_neg z, Int32.mul_zero]
theorem sm_b0 {f : Nat → Int32} : ∀ {n : Nat}, n ≤ 8 → (∀ j, j < n → 0 ≤ (f j).toInt ∧ (f j).toInt ≤ 50) → 0 ≤ (sm f n).toInt ∧ (sm f n).toInt ≤ 50 * n
  | 0, _, _ => by show 0 ≤ (0 : Int32).toInt ∧ (0 : Int32).toInt ≤ 50 * ((0 : Nat) : Int); decide
  | n + 1, h, hf => by
    have ih := sm_b0 (n := n) (by omega) (fun j hj => hf j (by omega))
    have := hf n (by omega)
    show 0 ≤ (sm f n + f n).toInt ∧ (sm f n + f n).toInt ≤ 50 * ((n + 1 : Nat) : Int)
    rw [ti_add (by omega) (by omega)]
    omega
theorem many_b {G : gx_S} (hG : wG G) (s : Nat) : 0 ≤ (G 7 s).toInt ∧ (G 7 s).toInt ≤ 50 := bw_i (hG.2.2.2 s).2.1
theorem so_b {G D : gx_S} (hG : wG G) (o : Nat) : 0 ≤ (so G D o).toInt ∧ (so G D o).toInt ≤ 400 := by
  have hS := (wG_S hG).2
  have := sm_b0 (f := fun s => if cho G D s (-1) = -1 then 0 else if wh D (cho G D s (-1)).toNatClampNeg = o then G 7 s else 0) hS (fun s _ => by
    have := many_b hG s
    split
    · decide
    · split
      · exact this
      · decide)
  unfold so
  omega
theorem all_b {G D : gx_S} (hG : wG G) : 0 ≤ (all G D).toInt ∧ (all G D).toInt ≤ 400 := by
  have hS := (wG_S hG).2
  have := sm_b0 (f := fun s => if cho G D s (-1) = -1 then 0 else G 7 s) hS (fun s _ => by
    have := many_b hG s
    split
    · decide
    · exact this)
  unfold all
  omega
theorem x_countSold {G D S : gx_S} (h : pX 0 G D S) : gt (m_Judge_countSold 0 S) fun T => (∀ q j, q ≠ 78 → T q j = S q j) ∧ ∀ o, o < 6 → T 78 o = so G D o := by
  have hG := h.1
  obtain ⟨eS, hS⟩ := wG_S hG
  have hP := (wG_P hG).2
  unfold m_Judge_countSold
  refine gt_for 6 (fun j t => t.1 = nn j ∧ (∀ q i, q ≠ 78 → t.2 q i = S q i) ∧ ∀ i, i < j → t.2 78 i = 0) ?_ ?_ 0 5000 _ (by omega) ⟨rfl, fun _ _ _ => rfl, fun i hi => absurd hi (by omega)⟩ (by omega)
  · rintro j ⟨_, T⟩ k hj ⟨rfl, f, g⟩ hk
    simp only at f g
    simp only [m_Judge_countSold_2]
    simp (disch := omega) only [show (6 : Int32) = nn 6 from rfl, nn_le, nn_c, ck_n, let_s, nn_s]
    rw [if_neg (by omega)]
    refine hk _ ⟨rfl, fun q i hq => ?_, fun i hi => ?_⟩
    · simp only
      rw [gx_st_q _ _ _ _ hq]; exact f q i hq
    · simp only
      by_cases z : i = j
      · subst z; rw [gx_st_eq]
      · rw [gx_st_j _ _ _ z]; exact g i (by omega)
  · rintro ⟨_, T⟩ k ⟨rfl, f, g⟩
    simp only at f g
    simp only [m_Judge_countSold_2]
    rw [if_pos (by decide)]
    clear k
    refine gt_for (nS G) (fun s t => t.1 = nn s ∧ (∀ q i, q ≠ 78 → t.2 q i = S q i) ∧ ∀ o, o < 6 → t.2 78 o = sm (fun s => if cho G D s (-1) = -1 then 0 else if wh D (cho G D s (-1)).toNatClampNeg = o then G 7 s else 0) s) ?_ ?_ 0 5000 _ (by omega) ⟨rfl, f, fun o ho => g o ho⟩ (by omega)
    · rintro s ⟨_, T⟩ k hs ⟨rfl, f, g⟩ hk
      simp only at f g
      simp only [m_Judge_countSold_23, m_Judge_countSold_69]
      have p : pX 0 G D T := ⟨hG, h.2.1, vG_f h.2.2.1 hS (fun q j hq => f q j (by omega)), vD_f h.2.2.2 (fun q j h1 h2 => f q j (by omega))⟩
      have v := p.2.2.1.1
      have d : ∀ i j, 1 ≤ i → i ≤ 3 → j < 6 → T (21 + 4 * 0 + i) j = D i j := p.2.2.2
      simp (disch := omega) only [v, eS, nn_le, x_choice p hs, cp_s, nn_s]
      rw [if_neg (by omega)]
      have nx : ∀ U, (∀ q i, q ≠ 78 → U q i = S q i) → (∀ o, o < 6 → U 78 o = T 78 o + (if cho G D s (-1) = -1 then 0 else if wh D (cho G D s (-1)).toNatClampNeg = o then G 7 s else 0)) → gt (k (nn (s + 1), U)) fun T => (∀ q j, q ≠ 78 → T q j = S q j) ∧ ∀ o, o < 6 → T 78 o = so G D o := fun U fU gU => hk _ ⟨rfl, fU, fun o ho => by simp only; rw [gU o ho, g o ho]; rfl⟩
      rcases cho_n G D s (-1) with e | ⟨i, hi, e, _⟩
      · rw [if_pos e]
        refine nx T f (fun o ho => ?_)
        rw [if_pos e, Int32.add_zero]
      · obtain ⟨ew, hwi⟩ := w0_w h.2.1 (j := i) (by omega)
        rw [e, if_neg (nn_m1 (by omega))]
        simp (disch := omega) only [ck_n, nn_c, d, ew, let_s, v]
        refine nx _ (fun q i hq => ?_) (fun o ho => ?_)
        · rw [gx_st_q _ _ _ _ hq]; exact f q i hq
        · rw [e, if_neg (nn_m1 (by omega)), nn_c (by omega)]
          by_cases z : wh D i = o
          · subst z
            rw [gx_st_eq, if_pos rfl]
          · rw [if_neg z, gx_st_j _ _ _ (fun y => z y.symm), Int32.add_zero]
    · rintro ⟨_, T⟩ k ⟨rfl, f, g⟩
      simp only at f g
      simp only [m_Judge_countSold_23]
      have e1 : T 1 2 = nn (nS G) := by rw [f _ _ (by omega), h.2.2.1.1 _ _ (by omega) (by omega), eS]
      simp (disch := omega) only [e1, nn_le]
      rw [if_pos (by omega)]
      exact gt_some ⟨f, g⟩
theorem x_hundredths (x al : Int32) (S : gx_S) : m_Judge_hundredths x al S = some (hu x al) := by
  unfold m_Judge_hundredths hu gx_nz
  by_cases q : al ≤ 0
  · rw [if_pos q, if_pos q]
  · rw [if_neg q, if_neg q, if_neg (fun z => q (by rw [z]; exact Int32.le_refl _))]
theorem x_leastDistance {G D S : gx_S} (h : pX 0 G D S) {a b : Nat} : m_Judge_leastDistance 0 (nn a) (nn b) S = some (ldo G D a b (nP G)) := by
  have v := h.2.2.1.1
  have d : ∀ i j, 1 ≤ i → i ≤ 3 → j < 6 → S (21 + 4 * 0 + i) j = D i j := h.2.2.2
  obtain ⟨eP, hP⟩ := wG_P h.1
  unfold m_Judge_leastDistance
  refine lp_for (nP G) (fun k => (ldo G D a b k, nn k)) (fun k k7 hk => ?_) (fun k7 => ?_) 0 5000 (by omega) (by omega)
  · simp only [m_Judge_leastDistance_7]
    simp (disch := omega) only [v, eP, nn_le]
    rw [if_neg (by omega)]
    refine lp_for (nP G) (fun i => (ldi G D a b k (ldo G D a b k) i, nn i)) (fun i k22 hi => ?_) (fun k22 => ?_) 0 5000 (by omega) (by omega)
    · simp only [m_Judge_leastDistance_22, m_Judge_leastDistance_60, m_Judge_leastDistance_61, m_Judge_leastDistance_117]
      simp (disch := omega) only [v, eP, nn_le, nn_c, ck_n, d, nn_s, x_isOpen h (k := k) (by omega), x_isOpen h (k := i) (by omega), cp_s, ib_0, ab_d]
      rw [if_neg (by omega)]
      rw [show ldi G D a b k (ldo G D a b k) (i + 1) = if ldc G D a b k i = true ∧ ab (G 4 k - G 4 i) < ldi G D a b k (ldo G D a b k) i then ab (G 4 k - G 4 i) else ldi G D a b k (ldo G D a b k) i from rfl]
      by_cases qa : D 2 k = nn a
      · rw [if_pos qa]
        by_cases qb : D 2 i = nn b
        · rw [if_pos qb, if_neg (by decide)]
          cases ok : opn G D k with
          | false => rw [if_pos rfl, if_neg (fun z => by simp [ldc, ok] at z)]
          | true =>
            rw [if_neg (by decide)]
            cases oi : opn G D i with
            | false => rw [if_pos rfl, if_neg (fun z => by simp [ldc, oi] at z)]
            | true =>
              rw [if_neg (by decide)]
              have hc : ldc G D a b k i = true := by simp [ldc, ow, qa, qb, ok, oi]
              by_cases y : ab (G 4 k - G 4 i) < ldi G D a b k (ldo G D a b k) i
              · rw [if_pos y, if_pos ⟨hc, y⟩]
              · rw [if_neg y, if_neg (fun z => y z.2)]
        · rw [if_neg qb, if_pos trivial, if_neg (fun z => by simp [ldc, ow, qb] at z)]
      · rw [if_neg qa, if_pos trivial, if_neg (fun z => by simp [ldc, ow, qa] at z)]
    · simp only [m_Judge_leastDistance_22]
      simp (disch := omega) only [v, eP, nn_le, nn_s]
      rw [if_pos (by omega)]
      rfl
  · simp only [m_Judge_leastDistance_7]
    simp (disch := omega) only [v, eP, nn_le]
    rw [if_pos (by omega)]
/-- what the class's judge holds of two owners -/
def jV (G D : gx_S) (a b : Nat) (S : gx_S) : Prop := S 77 6 = val G D a b 115 ∧ S 77 7 = val G D a b 111 ∧ S 77 8 = val G D a b 114 ∧ S 77 9 = val G D a b 100
theorem x_weigh {G D S : gx_S} (h : pX 0 G D S) (hw : wD G D) {a b : Nat} (ha : a < nO G) (hb : b < nO G) : gt (m_Judge_weigh 0 (nn a) (nn b) S) fun T => (∀ q j, q ≠ 77 → q ≠ 78 → T q j = S q j) ∧ jV G D a b T := by
  have hG := h.1
  obtain ⟨eO, hO⟩ := wG_O hG
  have hS := (wG_S hG).2
  unfold m_Judge_weigh
  refine gt_cp (x_countSold h) (fun S2 hS2 => ?_)
  obtain ⟨f2, g2⟩ := hS2
  have main : ∀ x, x = (if so G D a ≤ 0 then 0 else if so G D b ≤ 0 then 0 else -1) → gt (m_Judge_weigh_32 0 (nn a) (nn b) 0 x S2) fun T => (∀ q j, q ≠ 77 → q ≠ 78 → T q j = S q j) ∧ jV G D a b T := by
    intro x hx
    unfold m_Judge_weigh_32
    refine gt_let ?_
    refine gt_for (nO G) (fun o t => t.1 = sm (fun o => so G D o) o ∧ t.2.1 = nn o ∧ (∀ q j, q ≠ 77 → t.2.2 q j = S2 q j) ∧ t.2.2 77 7 = x + sm (fun o => if so G D o ≤ 0 then 0 else 1) o) ?_ ?_ 0 5000 _ (by omega) ?_ (by omega)
    · rintro o ⟨_, _, T⟩ k ho ⟨rfl, rfl, f, g⟩ hk
      simp only at f g
      simp only [m_Judge_weigh_38, m_Judge_weigh_82]
      have e1 : T 1 0 = nn (nO G) := by rw [f _ _ (by omega), f2 _ _ (by omega), h.2.2.1.1 _ _ (by omega) (by omega), eO]
      have e2 : T 78 o = so G D o := by rw [f _ _ (by omega)]; exact g2 o (by omega)
      simp (disch := omega) only [e1, e2, nn_le, nn_c, ck_n, nn_s, let_s, g]
      rw [if_neg (by omega)]
      have nx : ∀ y, y = (if so G D o ≤ 0 then 0 else 1) → gt (k (sm (fun o => so G D o) o + so G D o, nn (o + 1), gx_st T 77 7 (x + sm (fun o => if so G D o ≤ 0 then 0 else 1) o + y))) fun T => (∀ q j, q ≠ 77 → q ≠ 78 → T q j = S q j) ∧ jV G D a b T := fun y hy => by
        refine hk _ ⟨rfl, rfl, fun q j hq => ?_, ?_⟩
        · simp only
          rw [gx_st_q _ _ _ _ hq]; exact f q j hq
        · simp only
          rw [gx_st_eq, hy, Int32.add_assoc]
          rfl
      by_cases q : so G D o ≤ 0
      · rw [if_pos q]
        exact nx _ (by rw [if_pos q])
      · rw [if_neg q]
        exact nx _ (by rw [if_neg q])
    · rintro ⟨_, _, T⟩ k ⟨rfl, rfl, f, g⟩
      simp only at f g
      simp only [m_Judge_weigh_38]
      have e1 : T 1 0 = nn (nO G) := by rw [f _ _ (by omega), f2 _ _ (by omega), h.2.2.1.1 _ _ (by omega) (by omega), eO]
      have ea : T 78 a = so G D a := by rw [f _ _ (by omega)]; exact g2 a (by omega)
      have eb : T 78 b = so G D b := by rw [f _ _ (by omega)]; exact g2 b (by omega)
      simp (disch := omega) only [e1, ea, eb, nn_le, nn_c, ck_n, let_s, x_hundredths, cp_s, gx_st_q]
      rw [if_pos (by omega), all_so hG hw.2.1]
      have pU : ∀ U : gx_S, (∀ q j, q ≠ 77 → q ≠ 78 → U q j = S q j) → pX 0 G D U := fun U fU => ⟨hG, h.2.1, vG_f h.2.2.1 hS (fun q j hq => fU q j (by omega) (by omega)), vD_f h.2.2.2 (fun q j h1 h2 => fU q j (by omega) (by omega))⟩
      rw [x_leastDistance (pU _ (fun q j h1 h2 => by rw [gx_st_q _ _ _ _ h1, gx_st_q _ _ _ _ h1, f q j h1, f2 q j h2])), cp_s]
      refine gt_some ⟨fun q j h1 h2 => by rw [gx_st_q _ _ _ _ h1, gx_st_q _ _ _ _ h1, gx_st_q _ _ _ _ h1, f q j h1, f2 q j h2], ?_⟩
      unfold jV
      simp (disch := omega) only [gx_st_j, gx_st_eq, g]
      refine ⟨rfl, ?_, rfl, rfl⟩
      rw [hx]
      rfl
    · refine ⟨rfl, rfl, fun q j hq => gx_st_q _ _ _ _ hq, ?_⟩
      simp only
      rw [gx_st_eq]
      exact (Int32.add_zero _).symm
  have ea : S2 78 a = so G D a := g2 a (by omega)
  have eb : S2 78 b = so G D b := g2 b (by omega)
  simp (disch := omega) only [ck_n, nn_c, ea, eb]
  unfold m_Judge_weigh_31
  by_cases qa : so G D a ≤ 0
  · rw [if_pos qa]
    exact main _ (by rw [if_pos qa])
  · rw [if_neg qa]
    by_cases qb : so G D b ≤ 0
    · rw [if_pos qb]
      exact main _ (by rw [if_neg qa, if_pos qb])
    · rw [if_neg qb]
      exact main _ (by rw [if_neg qa, if_neg qb])
theorem u_soldBy {G D T : gx_S} (h : pU G D (-1) T) (g : ∀ k, k < nP G → T 15 k = sl G D k) {o : Nat} (ho : o < 6) : n_soldBy (nn o) T = some (so G D o) := by
  have hG := h.1
  obtain ⟨eP, hP⟩ := wG_P hG
  have e1 : T 0 4 = nn (nP G) := by rw [h.2.2.1.1.2.1, eP]
  rw [so_sl hG]
  unfold n_soldBy
  refine lp_for (nP G) (fun j => (sm (fun k => sl G D k * (if wh D k = o then 1 else 0)) j, nn j)) (fun j k hj => ?_) (fun k => ?_) 0 5000 (by omega) (by omega)
  · simp only [n_soldBy_4, n_soldBy_33]
    obtain ⟨d1, d2, d3⟩ := h.2.2.2.1 j (by omega)
    obtain ⟨ew, hwi⟩ := w0_w h.2.1 (j := j) (by omega)
    simp (disch := omega) only [e1, nn_le, nn_c, ck_n, nn_s, d2, ew, nn_eq, g j hj]
    rw [if_neg (by omega)]
    rw [show sm (fun k => sl G D k * (if wh D k = o then 1 else 0)) (j + 1) = sm (fun k => sl G D k * (if wh D k = o then 1 else 0)) j + sl G D j * (if wh D j = o then 1 else 0) from rfl]
    by_cases q : wh D j = o
    · rw [if_pos q, if_pos q, Int32.mul_one]
    · rw [if_neg q, if_neg q, Int32.mul_zero]
  · simp only [n_soldBy_4]
    simp (disch := omega) only [e1, nn_le]
    rw [if_pos (by omega)]
theorem sm_two {f : Nat → Int32} {a b n : Nat} (ha : a < n) (hb : b < n) (hab : a ≠ b) : sm f n = f a + f b + sm (fun o => if o = a ∨ o = b then 0 else f o) n := by
  have e : sm f n = sm (fun o => ((if o = a then f o else 0) + (if o = b then f o else 0)) + (if o = a ∨ o = b then 0 else f o)) n := sm_cg (fun o _ => by
    by_cases z : o = a
    · subst z
      rw [if_pos rfl, if_neg hab, if_pos (Or.inl rfl), Int32.add_zero, Int32.add_zero]
    · by_cases y : o = b
      · subst y
        rw [if_neg z, if_pos rfl, if_pos (Or.inr rfl), Int32.zero_add, Int32.add_zero]
      · rw [if_neg z, if_neg y, if_neg (by omega), Int32.add_zero, Int32.zero_add])
  rw [e, sm_add, sm_add, sm_one, sm_one, if_pos ha, if_pos hb]
theorem sel_r {G D : gx_S} (hG : wG G) {a b : Nat} (ha : a < nO G) (hb : b < nO G) (hab : a ≠ b) : sel G D a b = (if so G D a + so G D b ≤ 0 then 0 else 1) + sm (fun o => if o = a ∨ o = b then 0 else if so G D o ≤ 0 then 0 else 1) (nO G) := by
  have h1 := so_b (D := D) hG a
  have h2 := so_b (D := D) hG b
  have e := ti_add (a := so G D a) (b := so G D b) (by omega) (by omega)
  have c0 : (0 : Int32).toInt = 0 := by decide
  unfold sel
  rw [sm_two (f := fun o => if so G D o ≤ 0 then 0 else 1) ha hb hab, ← Int32.add_assoc]
  congr 1
  simp only [Int32.le_iff_toInt_le, e, c0]
  by_cases qa : (so G D a).toInt ≤ 0
  · by_cases qb : (so G D b).toInt ≤ 0
    · rw [if_pos qa, if_pos qa, if_pos qb, if_pos (by omega)]; decide
    · rw [if_pos qa, if_pos qa, if_neg qb, if_neg (by omega)]; decide
  · by_cases qb : (so G D b).toInt ≤ 0
    · rw [if_neg qa, if_pos qb, if_neg qa, if_pos qb, if_neg (by omega)]; decide
    · rw [if_neg qa, if_neg qb, if_neg qa, if_neg qb, if_neg (by omega)]; decide
theorem u_valueOf {G D S : gx_S} (h : pU G D (-1) S) (hw : wD G D) {a b c : Nat} (ha : a < nO G) (hb : b < nO G) (hab : a ≠ b) (hc : c = 115 ∨ c = 111 ∨ c = 114 ∨ c = 100) : gt (n_valueOf (nn c) (nn a) (nn b) S) fun t => t.1 = val G D a b c ∧ f15 S t.2 := by
  have hG := h.1
  obtain ⟨eP, hP⟩ := wG_P hG
  obtain ⟨eO, hO⟩ := wG_O hG
  unfold n_valueOf
  refine gt_cs (u_laySold h) (fun al T hT => ?_)
  obtain ⟨e, f, g⟩ := hT
  simp only at e f g
  have p := pU_15 h f
  rw [e, u_soldBy p g (o := a) (by omega), cp_s, u_soldBy p g (o := b) (by omega), cp_s]
  have hab0 := all_b (D := D) hG
  have hz : all G D ≤ 0 ↔ all G D = 0 := by
    rw [Int32.le_iff_toInt_le, ← Int32.toInt_inj, show (0 : Int32).toInt = 0 from by decide]
    omega
  rcases hc with rfl | rfl | rfl | rfl
  · rw [if_pos (show nn 115 = 115 from rfl)]
    have ev : val G D a b 115 = hu (so G D a + so G D b) (all G D) := rfl
    rw [ev]
    unfold hu gx_nz
    by_cases q : all G D = 0
    · rw [if_pos q, if_pos (hz.mpr q)]; exact gt_some ⟨rfl, f⟩
    · rw [if_neg q, if_neg q, if_neg (fun z => q (hz.mp z))]; exact gt_some ⟨rfl, f⟩
  · rw [if_neg (show ¬ nn 111 = 115 by decide), if_neg (show ¬ nn 111 = 114 by decide), if_pos (show nn 111 = 111 from rfl)]
    have ev : val G D a b 111 = sel G D a b := rfl
    rw [ev, sel_r hG ha hb hab]
    have main : ∀ x, gt (n_valueOf_101 (nn a) (nn b) x T) fun t => t.1 = x + sm (fun o => if o = a ∨ o = b then 0 else if so G D o ≤ 0 then 0 else 1) (nO G) ∧ f15 S t.2 := by
      intro x
      unfold n_valueOf_101
      have e1 : T 0 0 = nn (nO G) := by rw [p.2.2.1.1.1, eO]
      refine ⟨_, lp_for (nO G) (fun j => (x + sm (fun o => if o = a ∨ o = b then 0 else if so G D o ≤ 0 then 0 else 1) j, nn j)) (o := some (x + sm (fun o => if o = a ∨ o = b then 0 else if so G D o ≤ 0 then 0 else 1) (nO G), T)) (fun j k hj => ?_) (fun k => ?_) 0 5000 (by omega) (by omega) |> (fun e => by rw [← e]; show _ = gx_loop _ 5000 (x + 0, nn 0); rw [Int32.add_zero]; rfl), rfl, f⟩
      · simp only [n_valueOf_106, n_valueOf_142, n_valueOf_143]
        simp (disch := omega) only [e1, nn_le, nn_s, u_soldBy p g (o := j) (by omega), cp_s, nn_eq]
        rw [if_neg (by omega)]
        rw [show sm (fun o => if o = a ∨ o = b then 0 else if so G D o ≤ 0 then 0 else 1) (j + 1) = sm (fun o => if o = a ∨ o = b then 0 else if so G D o ≤ 0 then 0 else 1) j + (if j = a ∨ j = b then 0 else if so G D j ≤ 0 then 0 else 1) from rfl, ← Int32.add_assoc]
        by_cases z : j = a
        · rw [if_pos z, if_pos (Or.inl z)]
        · rw [if_neg z]
          by_cases y : j = b
          · rw [if_pos y, if_pos (Or.inr y)]
          · rw [if_neg y, if_neg (show ¬ (j = a ∨ j = b) by omega)]
            by_cases w : so G D j ≤ 0
            · rw [if_pos w, if_pos w]
            · rw [if_neg w, if_neg w]
      · simp only [n_valueOf_106]
        simp (disch := omega) only [e1, nn_le]
        rw [if_pos (by omega)]
    by_cases q : so G D a + so G D b ≤ 0
    · rw [if_pos q, if_pos q]; exact main 0
    · rw [if_neg q, if_neg q]; exact main 1
  · rw [if_neg (show ¬ nn 114 = 115 by decide), if_pos (show nn 114 = 114 from rfl)]
    have ev : val G D a b 114 = 2 * hu (so G D a) (all G D) * hu (so G D b) (all G D) := rfl
    rw [ev]
    unfold hu gx_nz
    by_cases q : all G D = 0
    · rw [if_pos q, if_pos (hz.mpr q), if_pos (hz.mpr q)]; exact gt_some ⟨by simp, f⟩
    · rw [if_neg q, if_neg q, if_neg q, if_neg (fun z => q (hz.mp z)), if_neg (fun z => q (hz.mp z))]; exact gt_some ⟨rfl, f⟩
  · rw [if_neg (show ¬ nn 100 = 115 by decide), if_neg (show ¬ nn 100 = 114 by decide), if_neg (show ¬ nn 100 = 111 by decide)]
    have ev : val G D a b 100 = ldo G D a b (nP G) := rfl
    rw [ev]
    have e1 : T 0 4 = nn (nP G) := by rw [p.2.2.1.1.2.1, eP]
    have el : gx_loop (n_valueOf_162 (nn a) (nn b) T) 5000 (99, 0) = some (ldo G D a b (nP G), T) := by
      refine lp_for (nP G) (fun k => (ldo G D a b k, nn k)) (fun k k7 hk => ?_) (fun k7 => ?_) 0 5000 (by omega) (by omega)
      · simp only [n_valueOf_162]
        simp (disch := omega) only [e1, nn_le]
        rw [if_neg (by omega)]
        refine lp_for (nP G) (fun i => (ldi G D a b k (ldo G D a b k) i, nn i)) (fun i k22 hi => ?_) (fun k22 => ?_) 0 5000 (by omega) (by omega)
        · simp only [n_valueOf_174, n_valueOf_227, n_valueOf_228, n_valueOf_267, n_valueOf_269]
          obtain ⟨d1, d2, d3⟩ := p.2.2.2.1 k (by omega)
          obtain ⟨d4, d5, d6⟩ := p.2.2.2.1 i (by omega)
          obtain ⟨s1, _⟩ := p.2.2.1.2.2.1 k (by omega)
          obtain ⟨s2, _⟩ := p.2.2.1.2.2.1 i (by omega)
          simp (disch := omega) only [e1, nn_le, nn_c, ck_n, nn_s, d2, d5, s1, s2, u_isOpen p (k := k) (by omega), u_isOpen p (k := i) (by omega), opx_m1 (G := G) (D := D) (k := k), opx_m1 (G := G) (D := D) (k := i), cp_s, ib_0, u_size]
          rw [if_neg (by omega)]
          rw [show ldi G D a b k (ldo G D a b k) (i + 1) = if ldc G D a b k i = true ∧ ab (G 4 k - G 4 i) < ldi G D a b k (ldo G D a b k) i then ab (G 4 k - G 4 i) else ldi G D a b k (ldo G D a b k) i from rfl]
          by_cases qa : D 2 k = nn a
          · rw [if_pos qa]
            by_cases qb : D 2 i = nn b
            · rw [if_pos qb]
              cases ok : opn G D k with
              | false => rw [if_pos rfl, if_pos trivial, if_neg (fun z => by simp [ldc, ok] at z)]
              | true =>
                rw [if_neg (by decide)]
                cases oi : opn G D i with
                | false => rw [if_pos rfl, if_pos trivial, if_neg (fun z => by simp [ldc, oi] at z)]
                | true =>
                  rw [if_neg (by decide), if_neg (by decide)]
                  have hc : ldc G D a b k i = true := by simp [ldc, ow, qa, qb, ok, oi]
                  by_cases y : ldi G D a b k (ldo G D a b k) i ≤ ab (G 4 k - G 4 i)
                  · rw [if_pos y, if_neg (by rintro ⟨_, z⟩; lia)]
                  · rw [if_neg y, if_pos ⟨hc, by lia⟩]
            · rw [if_neg qb, if_pos trivial, if_neg (fun z => by simp [ldc, ow, qb] at z)]
          · rw [if_neg qa, if_pos trivial, if_neg (fun z => by simp [ldc, ow, qa] at z)]
        · simp only [n_valueOf_174]
          simp (disch := omega) only [e1, nn_le, nn_s]
          rw [if_pos (by omega)]
          rfl
      · simp only [n_valueOf_162]
        simp (disch := omega) only [e1, nn_le]
        rw [if_pos (by omega)]
    rw [el]
    exact gt_some ⟨rfl, f⟩
