/-! b22: what two owners weigh -/
def so (G D : gx_S) (o : Nat) : Int32 := sm (fun s => if cho G D s (-1) = -1 then 0 else if wh D (cho G D s (-1)).toNatClampNeg = o then G 7 s else 0) (nS G)
def hu (x al : Int32) : Int32 := if al ≤ 0 then 0 else (100 * x) / al
def ldc (G D : gx_S) (a b k i : Nat) : Bool := ow D a k && ow D b i && opn G D k && opn G D i
def ldi (G D : gx_S) (a b k : Nat) (l : Int32) : Nat → Int32
  | 0 => l
  | i + 1 => if ldc G D a b k i = true ∧ ab (G 4 k - G 4 i) < ldi G D a b k l i then ab (G 4 k - G 4 i) else ldi G D a b k l i
def ldo (G D : gx_S) (a b : Nat) : Nat → Int32
  | 0 => 99
  | k + 1 => ldi G D a b k (ldo G D a b k) (nP G)
def sel (G D : gx_S) (a b : Nat) : Int32 := (if so G D a ≤ 0 then 0 else if so G D b ≤ 0 then 0 else -1) + sm (fun o => if so G D o ≤ 0 then 0 else 1) (nO G)
def val (G D : gx_S) (a b c : Nat) : Int32 := if c = 115 then hu (so G D a + so G D b) (all G D) else if c = 114 then 2 * hu (so G D a) (all G D) * hu (so G D b) (all G D) else if c = 111 then sel G D a b else ldo G D a b (nP G)
theorem so_sl {G D : gx_S} (hG : wG G) (o : Nat) : so G D o = sm (fun k => sl G D k * (if wh D k = o then 1 else 0)) (nP G) := by
  rw [← tot_sl hG]
  refine sm_cg (fun s hs => ?_)
  rw [sx_d]
  split
  · rfl
  · split
    · rw [Int32.mul_one]
    · rw [Int32.mul_zero]
theorem all_sl {G D : gx_S} (hG : wG G) : all G D = sm (fun k => sl G D k) (nP G) := by
  have : all G D = tot G D (fun _ => 1) := by
    refine sm_cg (fun s hs => ?_)
    rw [sx_d, Int32.mul_one]
  rw [this, tot_sl hG]
  exact sm_cg (fun k _ => Int32.mul_one _)
theorem all_so {G D : gx_S} (hG : wG G) (hw : ∀ k, k < nP G → wh D k < nO G) : sm (fun o => so G D o) (nO G) = all G D := by
  rw [all_sl hG, sm_cg (fun o _ => so_sl hG o), sm_swap]
  refine sm_cg (fun k hk => ?_)
  rw [sm_cg (g := fun o => if o = wh D k then sl G D k else 0) (fun o _ => ?_), sm_one, if_pos (hw k hk)]
  by_cases z : o = wh D k
  · rw [if_pos z.symm, if_pos z, Int32.mul_one]
  · rw [if_neg (fun y => z y.symm), if_neg z, Int32.mul_zero]
theorem sm_b0 {f : Nat → Int32} : ∀ {n : Nat}, n ≤ 8 → (∀ j, j < n → 0 ≤ (f j).toInt ∧ (f j).toInt ≤ 50) → 0 ≤ (sm f n).toInt ∧ (sm f n).toInt ≤ 50 * n
  | 0, _, _ => by show 0 ≤ (0 : Int32).toInt ∧ (0 : Int32).toInt ≤ 50 * ((0 : Nat) : Int); decide
  | n + 1, h, hf => by
    have ih := sm_b0 (n := n) (by omega) (fun j hj => hf j (by omega))
    have := hf n (by omega)
    show 0 ≤ (sm f n + f n).toInt ∧ (sm f n + f n).toInt ≤ 50 * ((n + 1 : Nat) : Int)
    rw [ti_add (by omega) (by omega)]
    omega
theorem many_b {G : gx_S} (hG : wG G) (s : Nat) : 0 ≤ (G 7 s).toInt ∧ (G 7 s).toInt ≤ 50 := bw_i (hG.2.2.2 s).2.1
theorem so_b {G D : gx_S} (hG : wG G) (o : Nat) : 0 ≤ (so G D o).toInt ∧ (so G D o).toInt ≤ 400 := by
  have hS := (wG_S hG).2
  have := sm_b0 (f := fun s => if cho G D s (-1) = -1 then 0 else if wh D (cho G D s (-1)).toNatClampNeg = o then G 7 s else 0) hS (fun s _ => by
    have := many_b hG s
    split
    · decide
    · split
      · exact this
      · decide)
  unfold so
  omega
theorem all_b {G D : gx_S} (hG : wG G) : 0 ≤ (all G D).toInt ∧ (all G D).toInt ≤ 400 := by
  have hS := (wG_S hG).2
  have := sm_b0 (f := fun s => if cho G D s (-1) = -1 then 0 else G 7 s) hS (fun s _ => by
    have := many_b hG s
    split
    · decide
    · exact this)
  unfold all
  omega
theorem x_countSold {G D S : gx_S} (h : pX 0 G D S) : gt (m_Judge_countSold 0 S) fun T => (∀ q j, q ≠ 78 → T q j = S q j) ∧ ∀ o, o < 6 → T 78 o = so G D o := by
  have hG := h.1
  obtain ⟨eS, hS⟩ := wG_S hG
  have hP := (wG_P hG).2
  unfold m_Judge_countSold
  refine gt_for 6 (fun j t => t.1 = nn j ∧ (∀ q i, q ≠ 78 → t.2 q i = S q i) ∧ ∀ i, i < j → t.2 78 i = 0) ?_ ?_ 0 5000 _ (by omega) ⟨rfl, fun _ _ _ => rfl, fun i hi => absurd hi (by omega)⟩ (by omega)
  · rintro j ⟨_, T⟩ k hj ⟨rfl, f, g⟩ hk
    simp only at f g
    simp only [m_Judge_countSold_2]
    simp (disch := omega) only [show (6 : Int32) = nn 6 from rfl, nn_le, nn_c, ck_n, let_s, nn_s]
    rw [if_neg (by omega)]
    refine hk _ ⟨rfl, fun q i hq => ?_, fun i hi => ?_⟩
    · simp only
      rw [gx_st_q _ _ _ _ hq]; exact f q i hq
    · simp only
      by_cases z : i = j
      · subst z; rw [gx_st_eq]
      · rw [gx_st_j _ _ _ z]; exact g i (by omega)
  · rintro ⟨_, T⟩ k ⟨rfl, f, g⟩
    simp only at f g
    simp only [m_Judge_countSold_2]
    rw [if_pos (by decide)]
    clear k
    refine gt_for (nS G) (fun s t => t.1 = nn s ∧ (∀ q i, q ≠ 78 → t.2 q i = S q i) ∧ ∀ o, o < 6 → t.2 78 o = sm (fun s => if cho G D s (-1) = -1 then 0 else if wh D (cho G D s (-1)).toNatClampNeg = o then G 7 s else 0) s) ?_ ?_ 0 5000 _ (by omega) ⟨rfl, f, fun o ho => g o ho⟩ (by omega)
    · rintro s ⟨_, T⟩ k hs ⟨rfl, f, g⟩ hk
      simp only at f g
      simp only [m_Judge_countSold_23, m_Judge_countSold_69]
      have p : pX 0 G D T := ⟨hG, h.2.1, vG_f h.2.2.1 hS (fun q j hq => f q j (by omega)), vD_f h.2.2.2 (fun q j h1 h2 => f q j (by omega))⟩
      have v := p.2.2.1.1
      have d : ∀ i j, 1 ≤ i → i ≤ 3 → j < 6 → T (21 + 4 * 0 + i) j = D i j := p.2.2.2
      simp (disch := omega) only [v, eS, nn_le, x_choice p hs, cp_s, nn_s]
      rw [if_neg (by omega)]
      have nx : ∀ U, (∀ q i, q ≠ 78 → U q i = S q i) → (∀ o, o < 6 → U 78 o = T 78 o + (if cho G D s (-1) = -1 then 0 else if wh D (cho G D s (-1)).toNatClampNeg = o then G 7 s else 0)) → gt (k (nn (s + 1), U)) fun T => (∀ q j, q ≠ 78 → T q j = S q j) ∧ ∀ o, o < 6 → T 78 o = so G D o := fun U fU gU => hk _ ⟨rfl, fU, fun o ho => by simp only; rw [gU o ho, g o ho]; rfl⟩
      rcases cho_n G D s (-1) with e | ⟨i, hi, e, _⟩
      · rw [if_pos e]
        refine nx T f (fun o ho => ?_)
        rw [if_pos e, Int32.add_zero]
      · obtain ⟨ew, hwi⟩ := w0_w h.2.1 (j := i) (by omega)
        rw [e, if_neg (nn_m1 (by omega))]
        simp (disch := omega) only [ck_n, nn_c, d, ew, let_s, v]
        refine nx _ (fun q i hq => ?_) (fun o ho => ?_)
        · rw [gx_st_q _ _ _ _ hq]; exact f q i hq
        · rw [e, if_neg (nn_m1 (by omega)), nn_c (by omega)]
          by_cases z : wh D i = o
          · subst z
            rw [gx_st_eq, if_pos rfl]
          · rw [if_neg z, gx_st_j _ _ _ (fun y => z y.symm), Int32.add_zero]
    · rintro ⟨_, T⟩ k ⟨rfl, f, g⟩
      simp only at f g
      simp only [m_Judge_countSold_23]
      have e1 : T 1 2 = nn (nS G) := by rw [f _ _ (by omega), h.2.2.1.1 _ _ (by omega) (by omega), eS]
      simp (disch := omega) only [e1, nn_le]
      rw [if_pos (by omega)]
      exact gt_some ⟨f, g⟩
theorem x_hundredths (x al : Int32) (S : gx_S) : m_Judge_hundredths x al S = some (hu x al) := by
  unfold m_Judge_hundredths hu gx_nz
  by_cases q : al ≤ 0
  · rw [if_pos q, if_pos q]
  · rw [if_neg q, if_neg q, if_neg (fun z => q (by rw [z]; exact Int32.le_refl _))]
theorem x_leastDistance {G D S : gx_S} (h : pX 0 G D S) {a b : Nat} : m_Judge_leastDistance 0 (nn a) (nn b) S = some (ldo G D a b (nP G)) := by
  have v := h.2.2.1.1
  have d : ∀ i j, 1 ≤ i → i ≤ 3 → j < 6 → S (21 + 4 * 0 + i) j = D i j := h.2.2.2
  obtain ⟨eP, hP⟩ := wG_P h.1
  unfold m_Judge_leastDistance
  refine lp_for (nP G) (fun k => (ldo G D a b k, nn k)) (fun k k7 hk => ?_) (fun k7 => ?_) 0 5000 (by omega) (by omega)
  · simp only [m_Judge_leastDistance_7]
    simp (disch := omega) only [v, eP, nn_le]
    rw [if_neg (by omega)]
    refine lp_for (nP G) (fun i => (ldi G D a b k (ldo G D a b k) i, nn i)) (fun i k22 hi => ?_) (fun k22 => ?_) 0 5000 (by omega) (by omega)
    · simp only [m_Judge_leastDistance_22, m_Judge_leastDistance_60, m_Judge_leastDistance_61, m_Judge_leastDistance_117]
      simp (disch := omega) only [v, eP, nn_le, nn_c, ck_n, d, nn_s, x_isOpen h (k := k) (by omega), x_isOpen h (k := i) (by omega), cp_s, ib_0, ab_d]
      rw [if_neg (by omega)]
      rw [show ldi G D a b k (ldo G D a b k) (i + 1) = if ldc G D a b k i = true ∧ ab (G 4 k - G 4 i) < ldi G D a b k (ldo G D a b k) i then ab (G 4 k - G 4 i) else ldi G D a b k (ldo G D a b k) i from rfl]
      by_cases qa : D 2 k = nn a
      · rw [if_pos qa]
        by_cases qb : D 2 i = nn b
        · rw [if_pos qb, if_neg (by decide)]
          cases ok : opn G D k with
          | false => rw [if_pos rfl, if_neg (fun z => by simp [ldc, ok] at z)]
          | true =>
            rw [if_neg (by decide)]
            cases oi : opn G D i with
            | false => rw [if_pos rfl, if_neg (fun z => by simp [ldc, oi] at z)]
            | true =>
              rw [if_neg (by decide)]
              have hc : ldc G D a b k i = true := by simp [ldc, ow, qa, qb, ok, oi]
              by_cases y : ab (G 4 k - G 4 i) < ldi G D a b k (ldo G D a b k) i
              · rw [if_pos y, if_pos ⟨hc, y⟩]
              · rw [if_neg y, if_neg (fun z => y z.2)]
        · rw [if_neg qb, if_pos trivial, if_neg (fun z => by simp [ldc, ow, qb] at z)]
      · rw [if_neg qa, if_pos trivial, if_neg (fun z => by simp [ldc, ow, qa] at z)]
    · simp only [m_Judge_leastDistance_22]
      simp (disch := omega) only [v, eP, nn_le, nn_s]
      rw [if_pos (by omega)]
      rfl
  · simp only [m_Judge_leastDistance_7]
    simp (disch := omega) only [v, eP, nn_le]
    rw [if_pos (by omega)]
/-- what the class's judge holds of two owners -/
def jV (G D : gx_S) (a b : Nat) (S : gx_S) : Prop := S 77 6 = val G D a b 115 ∧ S 77 7 = val G D a b 111 ∧ S 77 8 = val G D a b 114 ∧ S 77 9 = val G D a b 100
theorem x_weigh {G D S : gx_S} (h : pX 0 G D S) (hw : wD G D) {a b : Nat} (ha : a < nO G) (hb : b < nO G) : gt (m_Judge_weigh 0 (nn a) (nn b) S) fun T => (∀ q j, q ≠ 77 → q ≠ 78 → T q j = S q j) ∧ jV G D a b T := by
  have hG := h.1
  obtain ⟨eO, hO⟩ := wG_O hG
  have hS := (wG_S hG).2
  unfold m_Judge_weigh
  refine gt_cp (x_countSold h) (fun S2 hS2 => ?_)
  obtain ⟨f2, g2⟩ := hS2
  have main : ∀ x, x = (if so G D a ≤ 0 then 0 else if so G D b ≤ 0 then 0 else -1) → gt (m_Judge_weigh_32 0 (nn a) (nn b) 0 x S2) fun T => (∀ q j, q ≠ 77 → q ≠ 78 → T q j = S q j) ∧ jV G D a b T := by
    intro x hx
    unfold m_Judge_weigh_32
    refine gt_let ?_
    refine gt_for (nO G) (fun o t => t.1 = sm (fun o => so G D o) o ∧ t.2.1 = nn o ∧ (∀ q j, q ≠ 77 → t.2.2 q j = S2 q j) ∧ t.2.2 77 7 = x + sm (fun o => if so G D o ≤ 0 then 0 else 1) o) ?_ ?_ 0 5000 _ (by omega) ?_ (by omega)
    · rintro o ⟨_, _, T⟩ k ho ⟨rfl, rfl, f, g⟩ hk
      simp only at f g
      simp only [m_Judge_weigh_38, m_Judge_weigh_82]
      have e1 : T 1 0 = nn (nO G) := by rw [f _ _ (by omega), f2 _ _ (by omega), h.2.2.1.1 _ _ (by omega) (by omega), eO]
      have e2 : T 78 o = so G D o := by rw [f _ _ (by omega)]; exact g2 o (by omega)
      simp (disch := omega) only [e1, e2, nn_le, nn_c, ck_n, nn_s, let_s, g]
      rw [if_neg (by omega)]
      have nx : ∀ y, y = (if so G D o ≤ 0 then 0 else 1) → gt (k (sm (fun o => so G D o) o + so G D o, nn (o + 1), gx_st T 77 7 (x + sm (fun o => if so G D o ≤ 0 then 0 else 1) o + y))) fun T => (∀ q j, q ≠ 77 → q ≠ 78 → T q j = S q j) ∧ jV G D a b T := fun y hy => by
        refine hk _ ⟨rfl, rfl, fun q j hq => ?_, ?_⟩
        · simp only
          rw [gx_st_q _ _ _ _ hq]; exact f q j hq
        · simp only
          rw [gx_st_eq, hy, Int32.add_assoc]
          rfl
      by_cases q : so G D o ≤ 0
      · rw [if_pos q]
        exact nx _ (by rw [if_pos q])
      · rw [if_neg q]
        exact nx _ (by rw [if_neg q])
    · rintro ⟨_, _, T⟩ k ⟨rfl, rfl, f, g⟩
      simp only at f g
      simp only [m_Judge_weigh_38]
      have e1 : T 1 0 = nn (nO G) := by rw [f _ _ (by omega), f2 _ _ (by omega), h.2.2.1.1 _ _ (by omega) (by omega), eO]
      have ea : T 78 a = so G D a := by rw [f _ _ (by omega)]; exact g2 a (by omega)
      have eb : T 78 b = so G D b := by rw [f _ _ (by omega)]; exact g2 b (by omega)
      simp (disch := omega) only [e1, ea, eb, nn_le, nn_c, ck_n, let_s, x_hundredths, cp_s, gx_st_q]
      rw [if_pos (by omega), all_so hG hw.2.1]
      have pU : ∀ U : gx_S, (∀ q j, q ≠ 77 → q ≠ 78 → U q j = S q j) → pX 0 G D U := fun U fU => ⟨hG, h.2.1, vG_f h.2.2.1 hS (fun q j hq => fU q j (by omega) (by omega)), vD_f h.2.2.2 (fun q j h1 h2 => fU q j (by omega) (by omega))⟩
      rw [x_leastDistance (pU _ (fun q j h1 h2 => by rw [gx_st_q _ _ _ _ h1, gx_st_q _ _ _ _ h1, f q j h1, f2 q j h2])), cp_s]
      refine gt_some ⟨fun q j h1 h2 => by rw [gx_st_q _ _ _ _ h1, gx_st_q _ _ _ _ h1, gx_st_q _ _ _ _ h1, f q j h1, f2 q j h2], ?_⟩
      unfold jV
      simp (disch := omega) only [gx_st_j, gx_st_eq, g]
      refine ⟨rfl, ?_, rfl, rfl⟩
      rw [hx]
      rfl
    · refine ⟨rfl, rfl, fun q j hq => gx_st_q _ _ _ _ hq, ?_⟩
      simp only
      rw [gx_st_eq]
      exact (Int32.add_zero _).symm
  have ea : S2 78 a = so G D a := g2 a (by omega)
  have eb : S2 78 b = so G D b := g2 b (by omega)
  simp (disch := omega) only [ck_n, nn_c, ea, eb]
  unfold m_Judge_weigh_31
  by_cases qa : so G D a ≤ 0
  · rw [if_pos qa]
    exact main _ (by rw [if_pos qa])
  · rw [if_neg qa]
    by_cases qb : so G D b ≤ 0
    · rw [if_pos qb]
      exact main _ (by rw [if_neg qa, if_pos qb])
    · rw [if_neg qb]
      exact main _ (by rw [if_neg qa, if_neg qb])
theorem u_soldBy {G D T : gx_S} (h : pU G D (-1) T) (g : ∀ k, k < nP G → T 15 k = sl G D k) {o : Nat} (ho : o < 6) : n_soldBy (nn o) T = some (so G D o) := by
  have hG := h.1
  obtain ⟨eP, hP⟩ := wG_P hG
  have e1 : T 0 4 = nn (nP G) := by rw [h.2.2.1.1.2.1, eP]
  rw [so_sl hG]
  unfold n_soldBy
  refine lp_for (nP G) (fun j => (sm (fun k => sl G D k * (if wh D k = o then 1 else 0)) j, nn j)) (fun j k hj => ?_) (fun k => ?_) 0 5000 (by omega) (by omega)
  · simp only [n_soldBy_4, n_soldBy_33]
    obtain ⟨d1, d2, d3⟩ := h.2.2.2.1 j (by omega)
    obtain ⟨ew, hwi⟩ := w0_w h.2.1 (j := j) (by omega)
    simp (disch := omega) only [e1, nn_le, nn_c, ck_n, nn_s, d2, ew, nn_eq, g j hj]
    rw [if_neg (by omega)]
    rw [show sm (fun k => sl G D k * (if wh D k = o then 1 else 0)) (j + 1) = sm (fun k => sl G D k * (if wh D k = o then 1 else 0)) j + sl G D j * (if wh D j = o then 1 else 0) from rfl]
    by_cases q : wh D j = o
    · rw [if_pos q, if_pos q, Int32.mul_one]
    · rw [if_neg q, if_neg q, Int32.mul_zero]
  · simp only [n_soldBy_4]
    simp (disch := omega) only [e1, nn_le]
    rw [if_pos (by omega)]
theorem sm_two {f : Nat → Int32} {a b n : Nat} (ha : a < n) (hb : b < n) (hab : a ≠ b) : sm f n = f a + f b + sm (fun o => if o = a ∨ o = b then 0 else f o) n := by
  have e : sm f n = sm (fun o => ((if o = a then f o else 0) + (if o = b then f o else 0)) + (if o = a ∨ o = b then 0 else f o)) n := sm_cg (fun o _ => by
    by_cases z : o = a
    · subst z
      rw [if_pos rfl, if_neg hab, if_pos (Or.inl rfl), Int32.add_zero, Int32.add_zero]
    · by_cases y : o = b
      · subst y
        rw [if_neg z, if_pos rfl, if_pos (Or.inr rfl), Int32.zero_add, Int32.add_zero]
      · rw [if_neg z, if_neg y, if_neg (by omega), Int32.add_zero, Int32.zero_add])
  rw [e, sm_add, sm_add, sm_one, sm_one, if_pos ha, if_pos hb]
theorem sel_r {G D : gx_S} (hG : wG G) {a b : Nat} (ha : a < nO G) (hb : b < nO G) (hab : a ≠ b) : sel G D a b = (if so G D a + so G D b ≤ 0 then 0 else 1) + sm (fun o => if o = a ∨ o = b then 0 else if so G D o ≤ 0 then 0 else 1) (nO G) := by
  have h1 := so_b (D := D) hG a
  have h2 := so_b (D := D) hG b
  have e := ti_add (a := so G D a) (b := so G D b) (by omega) (by omega)
  have c0 : (0 : Int32).toInt = 0 := by decide
  unfold sel
  rw [sm_two (f := fun o => if so G D o ≤ 0 then 0 else 1) ha hb hab, ← Int32.add_assoc]
  congr 1
  simp only [Int32.le_iff_toInt_le, e, c0]
  by_cases qa : (so G D a).toInt ≤ 0
  · by_cases qb : (so G D b).toInt ≤ 0
    · rw [if_pos qa, if_pos qa, if_pos qb, if_pos (by omega)]; decide
    · rw [if_pos qa, if_pos qa, if_neg qb, if_neg (by omega)]; decide
  · by_cases qb : (so G D b).toInt ≤ 0
    · rw [if_neg qa, if_pos qb, if_neg qa, if_pos qb, if_neg (by omega)]; decide
    · rw [if_neg qa, if_neg qb, if_neg qa, if_neg qb, if_neg (by omega)]; decide
theorem u_valueOf {G D S : gx_S} (h : pU G D (-1) S) (hw : wD G D) {a b c : Nat} (ha : a < nO G) (hb : b < nO G) (hab : a ≠ b) (hc : c = 115 ∨ c = 111 ∨ c = 114 ∨ c = 100) : gt (n_valueOf (nn c) (nn a) (nn b) S) fun t => t.1 = val G D a b c ∧ f15 S t.2 := by
  have hG := h.1
  obtain ⟨eP, hP⟩ := wG_P hG
  obtain ⟨eO, hO⟩ := wG_O hG
  unfold n_valueOf
  refine gt_cs (u_laySold h) (fun al T hT => ?_)
  obtain ⟨e, f, g⟩ := hT
  simp only at e f g
  have p := pU_15 h f
  rw [e, u_soldBy p g (o := a) (by omega), cp_s, u_soldBy p g (o := b) (by omega), cp_s]
  have hab0 := all_b (D := D) hG
  have hz : all G D ≤ 0 ↔ all G D = 0 := by
    rw [Int32.le_iff_toInt_le, ← Int32.toInt_inj, show (0 : Int32).toInt = 0 from by decide]
    omega
  rcases hc with rfl | rfl | rfl | rfl
  · rw [if_pos (show nn 115 = 115 from rfl)]
    have ev : val G D a b 115 = hu (so G D a + so G D b) (all G D) := rfl
    rw [ev]
    unfold hu gx_nz
    by_cases q : all G D = 0
    · rw [if_pos q, if_pos (hz.mpr q)]; exact gt_some ⟨rfl, f⟩
    · rw [if_neg q, if_neg q, if_neg (fun z => q (hz.mp z))]; exact gt_some ⟨rfl, f⟩
  · rw [if_neg (show ¬ nn 111 = 115 by decide), if_neg (show ¬ nn 111 = 114 by decide), if_pos (show nn 111 = 111 from rfl)]
    have ev : val G D a b 111 = sel G D a b := rfl
    rw [ev, sel_r hG ha hb hab]
    have main : ∀ x, gt (n_valueOf_101 (nn a) (nn b) x T) fun t => t.1 = x + sm (fun o => if o = a ∨ o = b then 0 else if so G D o ≤ 0 then 0 else 1) (nO G) ∧ f15 S t.2 := by
      intro x
      unfold n_valueOf_101
      have e1 : T 0 0 = nn (nO G) := by rw [p.2.2.1.1.1, eO]
      refine ⟨_, lp_for (nO G) (fun j => (x + sm (fun o => if o = a ∨ o = b then 0 else if so G D o ≤ 0 then 0 else 1) j, nn j)) (o := some (x + sm (fun o => if o = a ∨ o = b then 0 else if so G D o ≤ 0 then 0 else 1) (nO G), T)) (fun j k hj => ?_) (fun k => ?_) 0 5000 (by omega) (by omega) |> (fun e => by rw [← e]; show _ = gx_loop _ 5000 (x + 0, nn 0); rw [Int32.add_zero]; rfl), rfl, f⟩
      · simp only [n_valueOf_106, n_valueOf_142, n_valueOf_143]
        simp (disch := omega) only [e1, nn_le, nn_s, u_soldBy p g (o := j) (by omega), cp_s, nn_eq]
        rw [if_neg (by omega)]
        rw [show sm (fun o => if o = a ∨ o = b then 0 else if so G D o ≤ 0 then 0 else 1) (j + 1) = sm (fun o => if o = a ∨ o = b then 0 else if so G D o ≤ 0 then 0 else 1) j + (if j = a ∨ j = b then 0 else if so G D j ≤ 0 then 0 else 1) from rfl, ← Int32.add_assoc]
        by_cases z : j = a
        · rw [if_pos z, if_pos (Or.inl z)]
        · rw [if_neg z]
          by_cases y : j = b
          · rw [if_pos y, if_pos (Or.inr y)]
          · rw [if_neg y, if_neg (show ¬ (j = a ∨ j = b) by omega)]
            by_cases w : so G D j ≤ 0
            · rw [if_pos w, if_pos w]
            · rw [if_neg w, if_neg w]
      · simp only [n_valueOf_106]
        simp (disch := omega) only [e1, nn_le]
        rw [if_pos (by omega)]
    by_cases q : so G D a + so G D b ≤ 0
    · rw [if_pos q, if_pos q]; exact main 0
    · rw [if_neg q, if_neg q]; exact main 1
  · rw [if_neg (show ¬ nn 114 = 115 by decide), if_pos (show nn 114 = 114 from rfl)]
    have ev : val G D a b 114 = 2 * hu (so G D a) (all G D) * hu (so G D b) (all G D) := rfl
    rw [ev]
    unfold hu gx_nz
    by_cases q : all G D = 0
    · rw [if_pos q, if_pos (hz.mpr q), if_pos (hz.mpr q)]; exact gt_some ⟨by simp, f⟩
    · rw [if_neg q, if_neg q, if_neg q, if_neg (fun z => q (hz.mp z)), if_neg (fun z => q (hz.mp z))]; exact gt_some ⟨rfl, f⟩
  · rw [if_neg (show ¬ nn 100 = 115 by decide), if_neg (show ¬ nn 100 = 114 by decide), if_neg (show ¬ nn 100 = 111 by decide)]
    have ev : val G D a b 100 = ldo G D a b (nP G) := rfl
    rw [ev]
    have e1 : T 0 4 = nn (nP G) := by rw [p.2.2.1.1.2.1, eP]
    have el : gx_loop (n_valueOf_162 (nn a) (nn b) T) 5000 (99, 0) = some (ldo G D a b (nP G), T) := by
      refine lp_for (nP G) (fun k => (ldo G D a b k, nn k)) (fun k k7 hk => ?_) (fun k7 => ?_) 0 5000 (by omega) (by omega)
      · simp only [n_valueOf_162]
        simp (disch := omega) only [e1, nn_le]
        rw [if_neg (by omega)]
        refine lp_for (nP G) (fun i => (ldi G D a b k (ldo G D a b k) i, nn i)) (fun i k22 hi => ?_) (fun k22 => ?_) 0 5000 (by omega) (by omega)
        · simp only [n_valueOf_174, n_valueOf_227, n_valueOf_228, n_valueOf_267, n_valueOf_269]
          obtain ⟨d1, d2, d3⟩ := p.2.2.2.1 k (by omega)
          obtain ⟨d4, d5, d6⟩ := p.2.2.2.1 i (by omega)
          obtain ⟨s1, _⟩ := p.2.2.1.2.2.1 k (by omega)
          obtain ⟨s2, _⟩ := p.2.2.1.2.2.1 i (by omega)
          simp (disch := omega) only [e1, nn_le, nn_c, ck_n, nn_s, d2, d5, s1, s2, u_isOpen p (k := k) (by omega), u_isOpen p (k := i) (by omega), opx_m1 (G := G) (D := D) (k := k), opx_m1 (G := G) (D := D) (k := i), cp_s, ib_0, u_size]
          rw [if_neg (by omega)]
          rw [show ldi G D a b k (ldo G D a b k) (i + 1) = if ldc G D a b k i = true ∧ ab (G 4 k - G 4 i) < ldi G D a b k (ldo G D a b k) i then ab (G 4 k - G 4 i) else ldi G D a b k (ldo G D a b k) i from rfl]
          by_cases qa : D 2 k = nn a
          · rw [if_pos qa]
            by_cases qb : D 2 i = nn b
            · rw [if_pos qb]
              cases ok : opn G D k with
              | false => rw [if_pos rfl, if_pos trivial, if_neg (fun z => by simp [ldc, ok] at z)]
              | true =>
                rw [if_neg (by decide)]
                cases oi : opn G D i with
                | false => rw [if_pos rfl, if_pos trivial, if_neg (fun z => by simp [ldc, oi] at z)]
                | true =>
                  rw [if_neg (by decide), if_neg (by decide)]
                  have hc : ldc G D a b k i = true := by simp [ldc, ow, qa, qb, ok, oi]
                  by_cases y : ldi G D a b k (ldo G D a b k) i ≤ ab (G 4 k - G 4 i)
                  · rw [if_pos y, if_neg (by rintro ⟨_, z⟩; lia)]
                  · rw [if_neg y, if_pos ⟨hc, by lia⟩]
            · rw [if_neg qb, if_pos trivial, if_neg (fun z => by simp [ldc, ow, qb] at z)]
          · rw [if_neg qa, if_pos trivial, if_neg (fun z => by simp [ldc, ow, qa] at z)]
        · simp only [n_valueOf_174]
          simp (disch := omega) only [e1, nn_le, nn_s]
          rw [if_pos (by omega)]
          rfl
      · simp only [n_valueOf_162]
        simp (disch := omega) only [e1, nn_le]
        rw [if_pos (by omega)]
    rw [el]
    exact gt_some ⟨rfl, f⟩

/-! b23: texts; letters -/
/-! letters: both loops in step -/
def lw_c (w : Int64) (x : Int32) : Int32 := ((w >>> (((8 : Int32) * x).toInt64 &&& 63)) &&& (255 : Int64)).toInt32
theorem lw_bits (v : BitVec 64) (k : Nat) (hk : k ≤ 56) : (v >>> k) &&& 255#64 = (v.sshiftRight k) &&& 255#64 := by
  apply BitVec.eq_of_getLsbD_eq
  intro i hi
  simp only [BitVec.getLsbD_and, BitVec.getLsbD_ushiftRight, BitVec.getLsbD_sshiftRight]
  by_cases h : i < 8
  · have h2 : k + i < 64 := by omega
    have h3 : ¬ 64 ≤ i := by omega
    simp [h2, h3]
  · have h2 : (255#64).getLsbD i = false := by
      rw [BitVec.getLsbD_ofNat]
      have : Nat.testBit 255 i = false := by
        rw [show (255 : Nat) = 2 ^ 8 - 1 from rfl, Nat.testBit_two_pow_sub_one]
        simpa using h
      simp [this]
    rw [h2, Bool.and_false, Bool.and_false]
theorem lw_code (w : Int64) (S : gx_S) : ∀ i, i < 8 → m_ShopsAsOne_codeAt w (nn i) S = some (lw_c w (nn i)) := by
  have key : ∀ (a : UInt64) (b : Int64) (k : Nat), k ≤ 56 → a.toNat % 64 = k → (b.toBitVec.smod 64).toNat = k → (w.toUInt64 >>> a).toInt64 &&& (255 : Int64) = (w >>> b) &&& (255 : Int64) := by
    intro a b k hk ha hb
    apply Int64.toBitVec_inj.mp
    have h := lw_bits w.toBitVec k hk
    rw [Int64.toBitVec_and, Int64.toBitVec_and, Int64.toBitVec_shiftRight]
    have e1 : (w.toUInt64 >>> a).toInt64.toBitVec = w.toBitVec >>> k := by
      show (w.toUInt64 >>> a).toBitVec = _
      rw [UInt64.toBitVec_shiftRight]
      show w.toBitVec >>> (a.toBitVec % 64#64) = _
      rw [BitVec.ushiftRight_eq']
      congr 1
    have e2 : w.toBitVec.sshiftRight' (b.toBitVec.smod 64) = w.toBitVec.sshiftRight k := by
      unfold BitVec.sshiftRight'
      rw [hb]
    rw [e1]
    exact h.trans (by rw [e2]; rfl)
  intro i hi
  unfold m_ShopsAsOne_codeAt lw_c
  refine congrArg some (congrArg Int64.toInt32 ?_)
  match i, hi with
  | 0, _ => exact key _ _ 0 (by decide) (by decide) (by decide)
  | 1, _ => exact key _ _ 8 (by decide) (by decide) (by decide)
  | 2, _ => exact key _ _ 16 (by decide) (by decide) (by decide)
  | 3, _ => exact key _ _ 24 (by decide) (by decide) (by decide)
  | 4, _ => exact key _ _ 32 (by decide) (by decide) (by decide)
  | 5, _ => exact key _ _ 40 (by decide) (by decide) (by decide)
  | 6, _ => exact key _ _ 48 (by decide) (by decide) (by decide)
  | 7, _ => exact key _ _ 56 (by decide) (by decide) (by decide)
  | i + 8, h => exact absurd h (by omega)
/-- how many letters w tells; none: it is refused -/
def lt_go (w : Int64) : Nat → Nat → Int32 → Int32 → Option Int32
  | 0, _, f, _ => some f
  | d + 1, i, f, o => if 126 < lw_c w (nn i) then none else if o = 0 ∨ lw_c w (nn i) = 0 then lt_go w d (i + 1) (f + if lw_c w (nn i) = 0 then 0 else 1) (if lw_c w (nn i) = 0 then 1 else 0) else none
theorem lt_m1 (w : Int64) (S : gx_S) (f o : Int32) (i : Nat) (hi : i < 8) (k : Int32 × Int32 × Int32 → Option (Int32 × gx_S)) : m_ShopsAsOne_letters_8 w S (f, o, nn i) k = if 126 < lw_c w (nn i) then some (-102, S) else if o = 0 ∨ lw_c w (nn i) = 0 then k (f + (if lw_c w (nn i) = 0 then 0 else 1), (if lw_c w (nn i) = 0 then 1 else 0), nn (i + 1)) else some (-102, S) := by
  have h8 : ¬ (8 : Int32) ≤ nn i := by rw [show (8 : Int32) = nn 8 from rfl, nn_le (by omega) (by omega)]; omega
  simp only [m_ShopsAsOne_letters_8, if_neg h8, lw_code w S i hi, gx_cp, m_ShopsAsOne_letters_43, m_ShopsAsOne_letters_53, m_ShopsAsOne_letters_66, nn_s]
  by_cases h1 : 126 < lw_c w (nn i)
  · simp [h1]
  · by_cases h2 : o = 0 <;> by_cases h3 : lw_c w (nn i) = 0 <;> simp [h1, h2, h3]
theorem lt_n1 (w : Int64) (S : gx_S) (f o : Int32) (i : Nat) (hi : i < 8) (k : Int32 × Int32 × Int32 → Option (Int32 × gx_S)) : n_letters_8 w S (f, o, nn i) k = if 126 < lw_c w (nn i) then some (-102, S) else if o = 0 ∨ lw_c w (nn i) = 0 then k (f + (if lw_c w (nn i) = 0 then 0 else 1), (if lw_c w (nn i) = 0 then 1 else 0), nn (i + 1)) else some (-102, S) := by
  have h8 : ¬ (8 : Int32) ≤ nn i := by rw [show (8 : Int32) = nn 8 from rfl, nn_le (by omega) (by omega)]; omega
  have e : (((w >>> (((8 : Int32) * nn i).toInt64 &&& 63)) &&& (255 : Int64)).toInt32) = lw_c w (nn i) := rfl
  simp only [n_letters_8, if_neg h8, e, n_letters_49, n_letters_59, n_letters_64, n_letters_77, nn_s]
  by_cases h1 : 126 < lw_c w (nn i)
  · simp [h1]
  · by_cases h2 : o = 0 <;> by_cases h3 : lw_c w (nn i) = 0 <;> simp [h1, h2, h3]
theorem lt_mr (w : Int64) (S : gx_S) : ∀ (d i : Nat) (f o : Int32) (n : Nat), i + d = 8 → d < n → gx_loop (m_ShopsAsOne_letters_8 w S) n (f, o, nn i) = match lt_go w d i f o with
    | none => some (-102, S)
    | some g => if ((S 66 1) + g) ≤ 50 then gx_loop (m_ShopsAsOne_letters_94 w g) 5000 (0, S) else some ((-104), S)
  | 0, i, f, o, n, h, hn => by
    obtain ⟨n, rfl⟩ : ∃ z, n = z + 1 := ⟨n - 1, by omega⟩
    rw [gx_loop_s, show i = 8 by omega]
    simp only [m_ShopsAsOne_letters_8, lt_go]
    rw [if_pos (by decide)]
  | d + 1, i, f, o, n, h, hn => by
    obtain ⟨n, rfl⟩ : ∃ z, n = z + 1 := ⟨n - 1, by omega⟩
    rw [gx_loop_s, lt_m1 w S f o i (by omega)]
    unfold lt_go
    split
    · rfl
    · split
      · exact lt_mr w S d (i + 1) _ _ n (by omega) (by omega)
      · rfl
theorem lt_nr (w : Int64) (S : gx_S) : ∀ (d i : Nat) (f o : Int32) (n : Nat), i + d = 8 → d < n → gx_loop (n_letters_8 w S) n (f, o, nn i) = match lt_go w d i f o with
    | none => some (-102, S)
    | some g => if ((S 0 14) + g) ≤ 50 then gx_loop (n_letters_102 w g) 5000 (0, S) else some ((-104), S)
  | 0, i, f, o, n, h, hn => by
    obtain ⟨n, rfl⟩ : ∃ z, n = z + 1 := ⟨n - 1, by omega⟩
    rw [gx_loop_s, show i = 8 by omega]
    simp only [n_letters_8, lt_go]
    rw [if_pos (by decide)]
  | d + 1, i, f, o, n, h, hn => by
    obtain ⟨n, rfl⟩ : ∃ z, n = z + 1 := ⟨n - 1, by omega⟩
    rw [gx_loop_s, lt_n1 w S f o i (by omega)]
    unfold lt_go
    split
    · rfl
    · split
      · exact lt_nr w S d (i + 1) _ _ n (by omega) (by omega)
      · rfl
theorem lt_few (w : Int64) : ∀ (d i a : Nat) (o g : Int32), lt_go w d i (nn a) o = some g → ∃ m, m ≤ a + d ∧ g = nn m
  | 0, i, a, o, g, h => ⟨a, by omega, (Option.some.inj h).symm⟩
  | d + 1, i, a, o, g, h => by
    unfold lt_go at h
    split at h
    · cases h
    · split at h
      · by_cases h3 : lw_c w (nn i) = 0
        · rw [if_pos h3] at h
          have h := (show lt_go w d (i + 1) (nn a + 0) _ = some g from h)
          rw [show nn a + 0 = nn a by simp] at h
          obtain ⟨m, h1, h2⟩ := lt_few w d (i + 1) a _ g h
          exact ⟨m, by omega, h2⟩
        · rw [if_neg h3] at h
          have h := (show lt_go w d (i + 1) (nn a + 1) _ = some g from h)
          rw [nn_s] at h
          obtain ⟨m, h1, h2⟩ := lt_few w d (i + 1) (a + 1) _ g h
          exact ⟨m, by omega, h2⟩
      · cases h
theorem lw_n (w : Int64) (x : Int32) : ∃ c, c < 256 ∧ lw_c w x = nn c := by
  unfold lw_c
  generalize w >>> (((8 : Int32) * x).toInt64 &&& 63) = y
  refine ⟨y.toBitVec.toNat % 256, Nat.mod_lt _ (by decide), ?_⟩
  apply Int32.toBitVec_inj.mp
  apply BitVec.eq_of_toNat_eq
  show ((y.toBitVec &&& 255#64).signExtend 32).toNat = (BitVec.ofNat 32 (y.toBitVec.toNat % 256)).toNat
  rw [BitVec.signExtend_eq_setWidth_of_le _ (by decide), BitVec.toNat_setWidth, BitVec.toNat_ofNat, BitVec.toNat_and]
  congr 1
  exact Nat.and_two_pow_sub_one_eq_mod _ 8
theorem i8_n : ∀ c, c < 128 → (Int8.ofNat c).toInt32 = nn c := by decide +kernel
theorem lw_b {y : Int64} {c : Nat} (hc : c < 128) (h : (y &&& (255 : Int64)).toInt32 = nn c) : (y.toInt32).toInt8.toInt32 = nn c := by
  have e : y.toBitVec.toNat % 256 = c := by
    have h2 := congrArg (fun z : Int32 => z.toBitVec.toNat) h
    have h3 : ((y.toBitVec &&& 255#64).signExtend 32).toNat = (BitVec.ofNat 32 c).toNat := h2
    rw [BitVec.signExtend_eq_setWidth_of_le _ (by decide), BitVec.toNat_setWidth, BitVec.toNat_ofNat, BitVec.toNat_and] at h3
    have h4 : y.toBitVec.toNat &&& (255#64).toNat = y.toBitVec.toNat % 256 := Nat.and_two_pow_sub_one_eq_mod _ 8
    rw [h4] at h3
    have := Nat.mod_lt y.toBitVec.toNat (y := 256) (by decide)
    omega
  have e2 : y.toInt32.toInt8 = Int8.ofNat c := by
    apply Int8.toBitVec_inj.mp
    apply BitVec.eq_of_toNat_eq
    show ((y.toBitVec.signExtend 32).signExtend 8).toNat = (BitVec.ofNat 8 c).toNat
    rw [BitVec.signExtend_eq_setWidth_of_le _ (by decide), BitVec.toNat_setWidth, BitVec.signExtend_eq_setWidth_of_le _ (by decide), BitVec.toNat_setWidth, BitVec.toNat_ofNat]
    omega
  rw [e2, i8_n c hc]
theorem lt_ok (w : Int64) : ∀ (d i : Nat) (f o g : Int32), lt_go w d i f o = some g → ∀ j, i ≤ j → j < i + d → ¬ 126 < lw_c w (nn j)
  | 0, i, f, o, g, h, j, h1, h2 => absurd h1 (by omega)
  | d + 1, i, f, o, g, h, j, h1, h2 => by
    unfold lt_go at h
    split at h
    · cases h
    · rename_i hq
      split at h
      · rcases Nat.lt_or_ge i j with q | q
        · exact lt_ok w d (i + 1) _ _ g h j (by omega) (by omega)
        · have : j = i := by omega
          subst this
          exact hq
      · cases h
theorem nar_c : ∀ c, c < 256 → vp_nar .char (nn c) = nn c ∧ vp_nar .char (((nn c).toUInt32 % 65536).toInt32) = nn c := by decide +kernel
theorem nar_y : ∀ c, c < 128 → vp_nar .byte (nn c) = nn c := by decide +kernel
theorem bc_n : ∀ c, c < 256 → (nn c).toUInt32.toUInt16.toUInt32.toInt32 = nn c := by decide +kernel
/-- the class's text r: n letters, L -/
def vT (r n : Nat) (L : Nat → Nat) (S : gx_S) : Prop := n ≤ 50 ∧ S (66 + 2 * r) 1 = nn n ∧ ∀ j, j < n → S (66 + 2 * r + 1) j = nn (L j) ∧ L j ≤ 126
/-- the reference's page -/
def uT (n : Nat) (L : Nat → Nat) (T : gx_S) : Prop := n ≤ 50 ∧ T 0 14 = nn n ∧ ∀ j, j < n → T 11 j = nn (L j) ∧ L j ≤ 126
theorem x_at {r n : Nat} {L : Nat → Nat} {S : gx_S} (h : vT r n L S) {j : Nat} (hj : j < 1000) : m_Text_at r (nn j) S = some (if j < n then nn (L j) else 0) := by
  obtain ⟨h1, h2, h3⟩ := h
  unfold m_Text_at m_Text_at_21
  rw [if_neg (by rw [nn_0, nn_lt (by omega) (by omega)]; omega), h2]
  simp (disch := omega) only [nn_le]
  by_cases q : n ≤ j
  · rw [if_pos q, if_neg (by omega)]
  · obtain ⟨e, b⟩ := h3 j (by omega)
    rw [if_neg q, if_pos (by omega)]
    simp (disch := omega) only [ck_n, nn_c, e]
    unfold gx_bc
    rw [if_pos (bc_n _ (by omega))]
theorem x_append {r n c : Nat} {L : Nat → Nat} {S : gx_S} (h : vT r n L S) (hn : n < 50) (hc : c ≤ 126) : gt (m_Text_append r (((nn c).toUInt32 % 65536).toInt32) S) fun T => (∀ q j, (q ≠ 66 + 2 * r ∨ j ≠ 1) → q ≠ 66 + 2 * r + 1 → T q j = S q j) ∧ vT r (n + 1) (fun j => if j = n then c else L j) T := by
  obtain ⟨h1, h2, h3⟩ := h
  unfold m_Text_append
  rw [h2, if_neg (by rw [show (50 : Int32) = nn 50 from rfl, nn_le (by omega) (by omega)]; omega)]
  simp (disch := omega) only [ck_n, nn_c, let_s, gx_st_q, h2, nn_s]
  rw [(nar_c c (by omega)).2]
  refine gt_some ⟨fun q j hq1 hq2 => ?_, by omega, gx_st_eq _ _ _ _, fun j hj => ?_⟩
  · by_cases z : q = 66 + 2 * r
    · subst z
      rw [gx_st_j _ _ _ (by omega), gx_st_q _ _ _ _ (by omega)]
    · rw [gx_st_q _ _ _ _ z, gx_st_q _ _ _ _ hq2]
  · rw [gx_st_q _ _ _ _ (by omega)]
    show _ = nn (if j = n then c else L j) ∧ (if j = n then c else L j) ≤ 126
    by_cases z : j = n
    · rw [if_pos z, z, gx_st_eq]
      exact ⟨rfl, hc⟩
    · rw [gx_st_j _ _ _ z, if_neg z]
      exact h3 j (by omega)
/-- the page behind the letters of w -/
def pgL (w : Int64) (n : Nat) (L : Nat → Nat) : Nat → Nat := fun j => if j < n then L j else (lw_c w (nn (j - n))).toNatClampNeg
theorem lw_k {w : Int64} {i : Nat} (h : ¬ 126 < lw_c w (nn i)) : lw_c w (nn i) = nn (lw_c w (nn i)).toNatClampNeg ∧ (lw_c w (nn i)).toNatClampNeg ≤ 126 := by
  obtain ⟨c, hc, e⟩ := lw_n w (nn i)
  rw [e] at h ⊢
  rw [nn_c (by omega)]
  rw [show (126 : Int32) = nn 126 from rfl, nn_lt (by omega) (by omega)] at h
  exact ⟨rfl, by omega⟩
theorem x_letters {n : Nat} {L : Nat → Nat} {S : gx_S} (h : vT 0 n L S) (w : Int64) : gt (m_ShopsAsOne_letters w S) fun t => match lt_go w 8 0 0 0 with
    | none => t.1 = -102 ∧ t.2 = S
    | some g => ∃ m, g = nn m ∧ m ≤ 8 ∧ ((50 < n + m ∧ t.1 = -104 ∧ t.2 = S) ∨ (n + m ≤ 50 ∧ t.1 = nn (n + m) ∧ (∀ q j, q ≠ 66 → q ≠ 67 → t.2 q j = S q j) ∧ vT 0 (n + m) (pgL w n L) t.2)) := by
  have h2 : S 66 1 = nn n := h.2.1
  have hn := h.1
  unfold m_ShopsAsOne_letters
  rw [show gx_loop (m_ShopsAsOne_letters_8 w S) 5000 (0, 0, 0) = _ from lt_mr w S 8 0 0 0 5000 (by decide) (by decide)]
  cases hg : lt_go w 8 0 0 0 with
  | none => exact gt_some ⟨rfl, rfl⟩
  | some g =>
    obtain ⟨m, hm, rfl⟩ := lt_few w 8 0 0 0 g hg
    have hok := lt_ok w 8 0 0 0 (nn m) hg
    simp only
    rw [h2, nn_add, show (50 : Int32) = nn 50 from rfl]
    simp (disch := omega) only [nn_le]
    by_cases q : n + m ≤ 50
    · rw [if_pos q]
      refine gt_mono (P := fun t => t.1 = nn (n + m) ∧ (∀ q j, q ≠ 66 → q ≠ 67 → t.2 q j = S q j) ∧ vT 0 (n + m) (pgL w n L) t.2) ?_ (fun t ht => ⟨m, rfl, by omega, Or.inr ⟨q, ht⟩⟩)
      refine gt_for m (fun i t => t.1 = nn i ∧ (∀ q j, q ≠ 66 → q ≠ 67 → t.2 q j = S q j) ∧ vT 0 (n + i) (pgL w n L) t.2) ?_ ?_ 0 5000 _ (by omega) ?_ (by omega)
      · rintro i ⟨_, T⟩ k hi ⟨rfl, f, g⟩ hk
        simp only at f g
        simp only [m_ShopsAsOne_letters_94]
        simp (disch := omega) only [nn_le, lw_code w T i (by omega), cp_s, nn_s]
        rw [if_neg (by omega)]
        obtain ⟨e, b⟩ := lw_k (hok i (by omega) (by omega))
        rw [e]
        refine gt_cp (x_append g (by omega) b) (fun U hU => ?_)
        obtain ⟨u1, u2, u3, u4⟩ := hU
        refine hk _ ⟨rfl, fun q j h1 h2 => ?_, u2, u3, fun j hj => ?_⟩
        · simp only
          rw [u1 q j (by omega) (by omega)]; exact f q j h1 h2
        · have := u4 j hj
          simp only at this
          by_cases z : j = n + i
          · rw [if_pos z] at this
            subst z
            have e3 : pgL w n L (n + i) = (lw_c w (nn i)).toNatClampNeg := by
              unfold pgL
              rw [if_neg (by omega), show n + i - n = i by omega]
            rw [e3]; exact this
          · rw [if_neg z] at this
            exact this
      · rintro ⟨_, T⟩ k ⟨rfl, f, g⟩
        simp only at f g
        simp only [m_ShopsAsOne_letters_94]
        rw [if_pos (Int32.le_refl _)]
        exact gt_some ⟨g.2.1, f, g⟩
      · refine ⟨rfl, fun _ _ _ _ => rfl, h.1, h.2.1, fun j hj => ?_⟩
        have := h.2.2 j (by omega)
        have e3 : pgL w n L j = L j := by
          unfold pgL
          rw [if_pos (by omega)]
        rw [e3]; exact this
    · rw [if_neg q]
      exact gt_some ⟨m, rfl, by omega, Or.inl ⟨by omega, rfl, rfl⟩⟩
theorem u_letters {n : Nat} {L : Nat → Nat} {S : gx_S} (h : uT n L S) (w : Int64) : gt (n_letters w S) fun t => match lt_go w 8 0 0 0 with
    | none => t.1 = -102 ∧ t.2 = S
    | some g => ∃ m, g = nn m ∧ m ≤ 8 ∧ ((50 < n + m ∧ t.1 = -104 ∧ t.2 = S) ∨ (n + m ≤ 50 ∧ t.1 = nn (n + m) ∧ (∀ q j, (q ≠ 0 ∨ j ≠ 14) → q ≠ 11 → t.2 q j = S q j) ∧ uT (n + m) (pgL w n L) t.2)) := by
  have h2 : S 0 14 = nn n := h.2.1
  have hn := h.1
  unfold n_letters
  rw [show gx_loop (n_letters_8 w S) 5000 (0, 0, 0) = _ from lt_nr w S 8 0 0 0 5000 (by decide) (by decide)]
  cases hg : lt_go w 8 0 0 0 with
  | none => exact gt_some ⟨rfl, rfl⟩
  | some g =>
    obtain ⟨m, hm, rfl⟩ := lt_few w 8 0 0 0 g hg
    have hok := lt_ok w 8 0 0 0 (nn m) hg
    simp only
    rw [h2, nn_add, show (50 : Int32) = nn 50 from rfl]
    simp (disch := omega) only [nn_le]
    by_cases q : n + m ≤ 50
    · rw [if_pos q]
      refine gt_mono (P := fun t => t.1 = nn (n + m) ∧ (∀ q j, (q ≠ 0 ∨ j ≠ 14) → q ≠ 11 → t.2 q j = S q j) ∧ uT (n + m) (pgL w n L) t.2) ?_ (fun t ht => ⟨m, rfl, by omega, Or.inr ⟨q, ht⟩⟩)
      refine gt_for m (fun i t => t.1 = nn i ∧ (∀ q j, q ≠ 11 → t.2 q j = S q j) ∧ ∀ j, j < n + i → t.2 11 j = nn (pgL w n L j) ∧ pgL w n L j ≤ 126) ?_ ?_ 0 5000 _ (by omega) ?_ (by omega)
      · rintro i ⟨_, T⟩ k hi ⟨rfl, f, g⟩ hk
        simp only at f g
        simp only [n_letters_102]
        have e14 : T 0 14 = nn n := by rw [f _ _ (by omega)]; exact h2
        simp (disch := omega) only [nn_le, e14, nn_add, ck_n, nn_c, let_s, nn_s]
        rw [if_neg (by omega)]
        obtain ⟨e, b⟩ := lw_k (hok i (by omega) (by omega))
        have e3 : pgL w n L (n + i) = (lw_c w (nn i)).toNatClampNeg := by
          unfold pgL
          rw [if_neg (by omega), show n + i - n = i by omega]
        rw [lw_b (c := (lw_c w (nn i)).toNatClampNeg) (by omega) e, nar_y _ (by omega)]
        refine hk _ ⟨rfl, fun q j hq => ?_, fun j hj => ?_⟩
        · simp only
          rw [gx_st_q _ _ _ _ hq]; exact f q j hq
        · simp only
          by_cases z : j = n + i
          · subst z
            rw [gx_st_eq, e3]
            exact ⟨rfl, b⟩
          · rw [gx_st_j _ _ _ z]
            exact g j (by omega)
      · rintro ⟨_, T⟩ k ⟨rfl, f, g⟩
        simp only at f g
        simp only [n_letters_102]
        have e14 : T 0 14 = nn n := by rw [f _ _ (by omega)]; exact h2
        rw [if_pos (Int32.le_refl _), e14, nn_add]
        refine gt_let (gt_some ⟨gx_st_eq T 0 14 (nn (n + m)), fun q j h1 h2 => ?_, by omega, gx_st_eq T 0 14 (nn (n + m)), fun j hj => ?_⟩)
        · simp only
          by_cases z : q = 0
          · subst z
            rw [gx_st_j _ _ _ (by omega)]; exact f _ _ h2
          · rw [gx_st_q _ _ _ _ z]; exact f q j h2
        · simp only
          rw [gx_st_q _ _ _ _ (by omega)]
          exact g j hj
      · refine ⟨rfl, fun _ _ _ => rfl, fun j hj => ?_⟩
        have := h.2.2 j (by omega)
        have e3 : pgL w n L j = L j := by
          unfold pgL
          rw [if_pos (by omega)]
        rw [e3]; exact this
    · rw [if_neg q]
      exact gt_some ⟨m, rfl, by omega, Or.inl ⟨by omega, rfl, rfl⟩⟩

/-! b24: what a test may have next -/
def dg (c : Nat) : Bool := decide (48 ≤ c) && decide (c ≤ 57)
def nam (c : Nat) : Prop := c = 115 ∨ c = 111 ∨ c = 114 ∨ c = 100
def sgn (c : Nat) : Prop := c = 60 ∨ c = 61 ∨ c = 62
/-- state q, o brackets open, letter c: what comes -/
noncomputable def tr (q o c : Nat) : Option (Nat × Nat) :=
  haveI := Classical.propDecidable
  if q = 0 then (if c = 33 then some (0, o) else if c = 40 then some (0, o + 1) else if nam c then some (1, o) else none)
  else if q = 1 then (if sgn c then some (2, o) else none)
  else if q < 6 ∧ dg c = true then some (q + 1, o)
  else if 2 < q ∧ (c = 38 ∨ c = 124) then some (0, o)
  else if 2 < q ∧ c = 41 ∧ 0 < o then some (7, o - 1)
  else none
theorem tr_b {q o c : Nat} {s : Nat × Nat} (hq : q ≤ 7) (h : tr q o c = some s) : s.1 ≤ 7 ∧ s.2 ≤ o + 1 := by
  unfold tr at h
  repeat' split at h
  all_goals first
    | (cases h; done)
    | (cases h; exact ⟨by simp only; omega, by simp only; omega⟩)
theorem x_isDigit {c : Nat} (hc : c < 1000) (S : gx_S) : m_Text_isDigit (nn c) S = some (ib (dg c)) := by
  unfold m_Text_isDigit m_Text_isDigit_16 dg
  rw [show (48 : Int32) = nn 48 from rfl, show (57 : Int32) = nn 57 from rfl]
  simp (disch := omega) only [nn_lt]
  by_cases a : c < 48
  · rw [if_pos a]
    have : decide (48 ≤ c) = false := by simp; omega
    rw [this]; rfl
  · rw [if_neg a]
    have h1 : decide (48 ≤ c) = true := by simp; omega
    by_cases b : 57 < c
    · rw [if_pos b]
      have : decide (c ≤ 57) = false := by simp; omega
      rw [this, h1]; rfl
    · rw [if_neg b]
      have : decide (c ≤ 57) = true := by simp; omega
      rw [this, h1]; rfl
theorem u_within (x a b : Int32) (S : gx_S) : n_within x a b S = some (if x < a then 0 else if b < x then 0 else 1) := by
  unfold n_within n_within_14
  split
  · rfl
  · split <;> rfl
theorem u_isDigit {c : Nat} (hc : c < 1000) (S : gx_S) : n_isDigit (nn c) S = some (ib (dg c)) := by
  have h := x_isDigit hc S
  unfold m_Text_isDigit m_Text_isDigit_16 at h
  unfold n_isDigit
  rw [u_within, cp_s]
  have e : (if nn c < 48 then 0 else if 57 < nn c then 0 else 1) = ib (dg c) := by
    by_cases a : nn c < 48
    · rw [if_pos a] at h ⊢; exact Option.some.inj h
    · rw [if_neg a] at h ⊢
      by_cases b : 57 < nn c
      · rw [if_pos b] at h ⊢; exact Option.some.inj h
      · rw [if_neg b] at h ⊢; exact Option.some.inj h
  rw [e]
  cases dg c with
  | false => exact bz_0
  | true => exact bz_1
def wn (q : Nat) : Nat := if q = 0 then 0 else if q = 1 then 1 else if q = 2 then 2 else if q < 7 then 3 else 4
/-- the class's grammar stands at state q with o open -/
def eG (q o : Nat) (S : gx_S) : Prop := S 76 0 = nn (wn q) ∧ S 76 1 = nn o ∧ (2 ≤ q → q ≤ 6 → S 76 2 = nn (q - 2))
def f76 (S T : gx_S) : Prop := ∀ q j, q ≠ 76 → T q j = S q j
theorem nn_ix {c k : Nat} (hc : c < 1000) (hk : k < 1000) : (nn c = nn k) = (c = k) := by rw [nn_eq (by omega) (by omega)]
/-- a step's outcome -/
def tkn (q o c : Nat) (S : gx_S) (t : Int32 × gx_S) : Prop := f76 S t.2 ∧ (match tr q o c with
  | some s => t.1 = 1 ∧ eG s.1 s.2 t.2
  | none => t.1 = 0)
theorem tkn_y {q o c q' o' : Nat} {S T : gx_S} {x : Int32} (ht : tr q o c = some (q', o')) (hf : f76 S T) (h0 : T 76 0 = nn (wn q')) (h1 : T 76 1 = nn o') (h2 : 2 ≤ q' → q' ≤ 6 → T 76 2 = nn (q' - 2)) (hx : x = 1) : tkn q o c S (x, T) := by
  refine ⟨hf, ?_⟩
  rw [ht]
  exact ⟨hx, h0, h1, h2⟩
theorem tkn_n {q o c : Nat} {S T : gx_S} {x : Int32} (ht : tr q o c = none) (hf : f76 S T) (hx : x = 0) : tkn q o c S (x, T) := by
  refine ⟨hf, ?_⟩
  rw [ht]
  exact hx
theorem f76_st {S T : gx_S} (h : f76 S T) (j : Nat) (x : Int32) : f76 S (gx_st T 76 j x) := fun q i hq => by rw [gx_st_q _ _ _ _ hq]; exact h q i hq
theorem x_takesFactor {o c : Nat} {S : gx_S} (ho : o < 100) (hc : c < 1000) (e : eG 0 o S) : gt (m_Grammar_takesFactor (nn c) S) (tkn 0 o c S) := by
  obtain ⟨e0, e1, _⟩ := e
  unfold m_Grammar_takesFactor m_Grammar_takesFactor_55
  have f0 : f76 S S := fun _ _ _ => rfl
  simp only [show (40 : Int32) = nn 40 from rfl, show (33 : Int32) = nn 33 from rfl, show (115 : Int32) = nn 115 from rfl, show (111 : Int32) = nn 111 from rfl, show (114 : Int32) = nn 114 from rfl, show (100 : Int32) = nn 100 from rfl, let_s, e1, nn_s]
  simp (disch := omega) only [nn_eq]
  by_cases c40 : c = 40
  · subst c40
    rw [if_pos rfl]
    have ht : tr 0 o 40 = some (0, o + 1) := by unfold tr; rw [if_pos rfl, if_neg (by decide), if_pos rfl]
    exact gt_some (tkn_y ht (f76_st f0 _ _) (by rw [gx_st_j _ _ _ (by omega)]; exact e0) (gx_st_eq _ _ _ _) (fun h => absurd h (by decide)) rfl)
  · rw [if_neg c40]
    by_cases c33 : c = 33
    · subst c33
      rw [if_pos rfl]
      have ht : tr 0 o 33 = some (0, o) := by unfold tr; rw [if_pos rfl, if_pos rfl]
      exact gt_some (tkn_y ht f0 e0 e1 (fun h => absurd h (by decide)) rfl)
    · rw [if_neg c33]
      have yes : nam c → tkn 0 o c S (1, gx_st S 76 0 1) := fun hn => by
        have ht : tr 0 o c = some (1, o) := by unfold tr; rw [if_pos rfl, if_neg c33, if_neg c40, if_pos hn]
        exact tkn_y ht (f76_st f0 _ _) (gx_st_eq _ _ _ _) (by rw [gx_st_j _ _ _ (by omega)]; exact e1) (fun h => absurd h (by decide)) rfl
      refine gt_ite (fun h => gt_some (yes (Or.inl h))) (fun h1 => gt_ite (fun h => gt_some (yes (Or.inr (Or.inl h)))) (fun h2 => gt_ite (fun h => gt_some (yes (Or.inr (Or.inr (Or.inl h))))) (fun h3 => gt_ite (fun h => gt_some (yes (Or.inr (Or.inr (Or.inr h))))) (fun h4 => gt_some (tkn_n ?_ (f76_st f0 _ _) rfl)))))
      unfold tr
      rw [if_pos rfl, if_neg c33, if_neg c40, if_neg]
      rintro (h | h | h | h)
      · exact h1 h
      · exact h2 h
      · exact h3 h
      · exact h4 h
theorem x_takesDigit {q o c : Nat} {S : gx_S} (ho : o < 100) (hc : c < 1000) (hq : 2 ≤ q) (hq6 : q ≤ 6) (e : eG q o S) : gt (m_Grammar_takesDigit (nn c) S) (fun t => (q < 6 ∧ dg c = true ∧ t.1 = 1 ∧ f76 S t.2 ∧ eG (q + 1) o t.2) ∨ (¬ (q < 6 ∧ dg c = true) ∧ t.1 = 0 ∧ t.2 = S)) := by
  obtain ⟨e0, e1, e2⟩ := e
  have e2 := e2 hq hq6
  unfold m_Grammar_takesDigit
  rw [x_isDigit hc, cp_s]
  simp only [ib_0]
  have f0 : f76 S S := fun _ _ _ => rfl
  cases hd : dg c with
  | false => rw [if_pos rfl]; exact gt_some (Or.inr ⟨fun z => absurd z.2 (by decide), rfl, rfl⟩)
  | true =>
    rw [if_neg (by decide), e2, show (4 : Int32) = nn 4 from rfl]
    simp (disch := omega) only [nn_lt]
    by_cases h6 : q - 2 < 4
    · rw [if_pos h6]
      simp only [let_s]
      rw [gx_st_j _ _ _ (by omega), e2, nn_s]
      refine gt_some (Or.inl ⟨by omega, trivial, rfl, f76_st (f76_st f0 _ _) _ _, ?_, ?_, fun h1 h2 => ?_⟩)
      · simp only
        rw [gx_st_j _ _ _ (by omega), gx_st_eq]
        unfold wn
        rw [if_neg (by omega), if_neg (by omega), if_neg (by omega), if_pos (by omega)]
        rfl
      · simp only
        rw [gx_st_j _ _ _ (by omega), gx_st_j _ _ _ (by omega)]; exact e1
      · simp only
        rw [gx_st_eq, show q + 1 - 2 = q - 2 + 1 by omega]
    · rw [if_neg h6]
      exact gt_some (Or.inr ⟨fun z => by omega, rfl, rfl⟩)
theorem x_takesBehind {q o c : Nat} {S : gx_S} (ho : o < 100) (hc : c < 1000) (hq : 2 < q) (hd : ¬ (q < 6 ∧ dg c = true)) (e1 : S 76 1 = nn o) : gt (m_Grammar_takesBehind (nn c) S) (tkn q o c S) := by
  have f0 : f76 S S := fun _ _ _ => rfl
  have t0 : tr q o c = haveI := Classical.propDecidable; if 2 < q ∧ (c = 38 ∨ c = 124) then some (0, o) else if 2 < q ∧ c = 41 ∧ 0 < o then some (7, o - 1) else none := by
    unfold tr
    rw [if_neg (by omega), if_neg (by omega), if_neg hd]
  have no : c ≠ 41 ∨ o = 0 → gt (m_Grammar_takesBehind_30 (nn c) S) (tkn q o c S) := fun hno => by
    unfold m_Grammar_takesBehind_30 m_Grammar_takesBehind_47
    simp only [let_s, show (124 : Int32) = nn 124 from rfl, show (38 : Int32) = nn 38 from rfl]
    simp (disch := omega) only [nn_eq]
    have yes : (c = 38 ∨ c = 124) → tkn q o c S (1, gx_st S 76 0 0) := fun hy => by
      exact tkn_y (q' := 0) (o' := o) (by rw [t0, if_pos ⟨hq, hy⟩]) (f76_st f0 _ _) (gx_st_eq _ _ _ _) (by rw [gx_st_j _ _ _ (by omega)]; exact e1) (fun h => absurd h (by decide)) rfl
    refine gt_ite (fun h => gt_some (yes (Or.inr h))) (fun h1 => gt_ite (fun h => gt_some (yes (Or.inl h))) (fun h2 => gt_some (tkn_n ?_ (f76_st f0 _ _) rfl)))
    rw [t0, if_neg (by omega), if_neg (by omega)]
  unfold m_Grammar_takesBehind
  rw [e1]
  simp only [show (41 : Int32) = nn 41 from rfl, nn_0]
  simp (disch := omega) only [nn_eq, nn_le]
  by_cases c41 : c = 41
  · rw [if_pos c41]
    by_cases ho0 : o ≤ 0
    · rw [if_pos ho0]
      exact no (Or.inr (by omega))
    · rw [if_neg ho0]
      simp only [let_s]
      rw [nn_p (by omega)]
      exact gt_some (tkn_y (q' := 7) (o' := o - 1) (by rw [t0, if_neg (by omega), if_pos ⟨hq, c41, by omega⟩]) (f76_st (f76_st f0 _ _) _ _) (gx_st_eq _ _ _ _) (by rw [gx_st_j _ _ _ (by omega), gx_st_eq]) (fun _ h => absurd h (by decide)) rfl)
  · rw [if_neg c41]
    exact no (Or.inl c41)
theorem gt_bz {R : Type} {y : Int32} {k : Option R} {P : R → Prop} (h0 : y = 0 ∨ y = 1) (h : gt k P) : gt (gx_bz y k) P := by
  unfold gx_bz
  rw [if_pos h0]; exact h
theorem tkn_01 {q o c : Nat} {S : gx_S} {t : Int32 × gx_S} (h : tkn q o c S t) : t.1 = 0 ∨ t.1 = 1 := by
  obtain ⟨_, h⟩ := h
  split at h
  · exact Or.inr h.1
  · exact Or.inl h
theorem x_takes {q o c : Nat} {S : gx_S} (hq : q ≤ 7) (ho : o < 100) (hc : c < 1000) (e : eG q o S) : gt (m_Grammar_takes (nn c) S) (tkn q o c S) := by
  have f0 : f76 S S := fun _ _ _ => rfl
  unfold m_Grammar_takes m_Grammar_takes_70 m_Grammar_takes_98
  rw [e.1]
  simp only [nn_0, show (1 : Int32) = nn 1 from rfl, show (2 : Int32) = nn 2 from rfl, show (3 : Int32) = nn 3 from rfl]
  have hw : wn q < 5 := by unfold wn; repeat' split
                           all_goals omega
  simp (disch := omega) only [nn_eq]
  by_cases q0 : q = 0
  · subst q0
    rw [if_pos (show wn 0 = 0 from rfl)]
    refine gt_cs (x_takesFactor ho hc e) (fun a T h => ?_)
    exact gt_bz (tkn_01 h) (gt_some h)
  · by_cases q1 : q = 1
    · subst q1
      rw [if_neg (by decide), if_pos (by decide)]
      obtain ⟨e0, e1, _⟩ := e
      simp only [let_s, show (60 : Int32) = nn 60 from rfl, show (61 : Int32) = nn 61 from rfl, show (62 : Int32) = nn 62 from rfl]
      simp (disch := omega) only [nn_eq]
      have t0 : tr 1 o c = haveI := Classical.propDecidable; if sgn c then some (2, o) else none := by
        unfold tr
        rw [if_neg (by decide), if_pos rfl]
      have yes : sgn c → tkn 1 o c S (nn 1, gx_st (gx_st S 76 0 (nn 2)) 76 2 (nn 0)) := fun hy => by
        exact tkn_y (q' := 2) (o' := o) (by rw [t0, if_pos hy]) (f76_st (f76_st f0 _ _) _ _) (by rw [gx_st_j _ _ _ (by omega), gx_st_eq]; rfl) (by rw [gx_st_j _ _ _ (by omega), gx_st_j _ _ _ (by omega)]; exact e1) (fun _ _ => gx_st_eq _ _ _ _) rfl
      refine gt_ite (fun h => gt_some (yes (Or.inl h))) (fun h1 => gt_ite (fun h => gt_some (yes (Or.inr (Or.inl h)))) (fun h2 => gt_ite (fun h => gt_some (yes (Or.inr (Or.inr h)))) (fun h3 => gt_some (tkn_n ?_ (f76_st (f76_st f0 _ _) _ _) rfl))))
      have hn : ¬ sgn c := by
        rintro (h | h | h)
        · exact h1 h
        · exact h2 h
        · exact h3 h
      rw [t0, if_neg hn]
    · by_cases q2 : q = 2
      · subst q2
        rw [if_neg (by decide), if_neg (by decide), if_pos (by decide)]
        refine gt_cs (x_takesDigit ho hc (by decide) (by decide) e) (fun a T h => ?_)
        simp only at h
        rcases h with ⟨h1, h2, h3, h4, h5⟩ | ⟨h1, h2, h3⟩
        · have ht : tr 2 o c = some (3, o) := by
            unfold tr
            rw [if_neg (by decide), if_neg (by decide), if_pos ⟨h1, h2⟩]
          exact gt_bz (Or.inr h3) (gt_some (tkn_y ht h4 h5.1 h5.2.1 h5.2.2 h3))
        · have ht : tr 2 o c = none := by
            unfold tr
            rw [if_neg (by decide), if_neg (by decide), if_neg h1, if_neg (by omega), if_neg (by omega)]
          exact gt_bz (Or.inl h2) (gt_some (tkn_n ht (by rw [h3]; exact f0) h2))
      · by_cases q7 : q = 7
        · subst q7
          rw [if_neg (by decide), if_neg (by decide), if_neg (by decide), if_neg (by decide)]
          refine gt_cs (x_takesBehind (q := 7) ho hc (by decide) (by omega) e.2.1) (fun a T h => ?_)
          exact gt_bz (tkn_01 h) (gt_some h)
        · have w3 : wn q = 3 := by
            unfold wn
            rw [if_neg q0, if_neg q1, if_neg q2, if_pos (by omega)]
          rw [w3, if_neg (by decide), if_neg (by decide), if_neg (by decide), if_pos rfl]
          refine gt_cs (x_takesDigit ho hc (by omega) (by omega) e) (fun a T h => ?_)
          simp only at h
          rcases h with ⟨h1, h2, h3, h4, h5⟩ | ⟨h1, h2, h3⟩
          · have ht : tr q o c = some (q + 1, o) := by
              unfold tr
              rw [if_neg q0, if_neg q1, if_pos ⟨h1, h2⟩]
            rw [h3, if_neg (by decide)]
            exact gt_some (tkn_y ht h4 h5.1 h5.2.1 h5.2.2 rfl)
          · subst h3
            rw [h2, if_pos (show (0 : Int32) = nn 0 from rfl)]
            refine gt_cs (x_takesBehind (q := q) ho hc (by omega) h1 e.2.1) (fun b U h => ?_)
            obtain ⟨g1, g2⟩ := h
            simp only at g1 g2
            refine gt_ite (fun z => gt_some ⟨g1, ?_⟩) (fun z => gt_some ⟨g1, ?_⟩)
            · cases ht : tr q o c with
              | none => rfl
              | some s =>
                rw [ht] at g2
                simp only at g2
                rw [g2.1] at z
                exact absurd z (by decide)
            · cases ht : tr q o c with
              | none =>
                rw [ht] at g2
                exact absurd g2 z
              | some s =>
                rw [ht] at g2
                exact ⟨rfl, g2.2⟩

/-! b25: the first fault; whether the page is a test -/
noncomputable def ffr (L : Nat → Nat) : Nat → Nat → Nat → Nat → Nat × Option (Nat × Nat)
  | 0, j, q, o => (j, some (q, o))
  | f + 1, j, q, o => match tr q o (L j) with
    | some s => ffr L f (j + 1) s.1 s.2
    | none => (j, none)
theorem ffr_e {L : Nat → Nat} : ∀ (f j q o : Nat), (∃ s, (ffr L f j q o).2 = some s ∧ (ffr L f j q o).1 = j + f) ∨ ((ffr L f j q o).2 = none ∧ (ffr L f j q o).1 < j + f)
  | 0, j, q, o => Or.inl ⟨(q, o), rfl, rfl⟩
  | f + 1, j, q, o => by
    unfold ffr
    cases h : tr q o (L j) with
    | none => exact Or.inr ⟨rfl, by simp only; omega⟩
    | some s =>
      simp only
      rcases ffr_e f (j + 1) s.1 s.2 with ⟨s', h1, h2⟩ | ⟨h1, h2⟩
      · exact Or.inl ⟨s', h1, by omega⟩
      · exact Or.inr ⟨h1, by omega⟩
noncomputable def flt (n : Nat) (L : Nat → Nat) : Nat := (ffr L n 0 0 0).1
noncomputable def isT (n : Nat) (L : Nat → Nat) : Bool := match (ffr L n 0 0 0).2 with
  | some s => decide (2 < s.1) && decide (s.2 = 0)
  | none => false
theorem x_firstFault {r n : Nat} {L : Nat → Nat} {S : gx_S} (h : vT r n L S) (hr : r < 5) : gt (m_Grammar_firstFault r S) fun t => f76 S t.2 ∧ t.1 = nn (flt n L) ∧ ∀ s, (ffr L n 0 0 0).2 = some s → s.1 ≤ 7 ∧ s.2 ≤ n ∧ eG s.1 s.2 t.2 := by
  have hn := h.1
  unfold m_Grammar_firstFault
  simp only [let_s]
  refine gt_for n (fun j t => t.1 = nn j ∧ f76 S t.2 ∧ ∃ q o, q ≤ 7 ∧ o ≤ j ∧ eG q o t.2 ∧ ffr L (n - j) j q o = ffr L n 0 0 0) ?_ ?_ 0 5000 _ (by omega) ?_ (by omega)
  · rintro j ⟨_, T⟩ k hj ⟨rfl, f, q, o, hq, ho, e, er⟩ hk
    simp only at f e
    simp only [m_Grammar_firstFault_12]
    have hT : vT r n L T := ⟨hn, by rw [f _ _ (by omega)]; exact h.2.1, fun i hi => by rw [f _ _ (by omega)]; exact h.2.2 i hi⟩
    have hL := (h.2.2 j hj).2
    simp (disch := omega) only [hT.2.1, nn_le, x_at hT (j := j) (by omega), cp_s, nn_s]
    rw [if_neg (by omega), if_pos hj]
    obtain ⟨m, hm⟩ : ∃ m, n - j = m + 1 := ⟨n - j - 1, by omega⟩
    rw [hm] at er
    refine gt_cs (x_takes hq (by omega) (by omega) e) (fun a U hU => ?_)
    obtain ⟨u1, u2⟩ := hU
    simp only at u1 u2
    have fU : f76 S U := fun q i hq => (u1 q i hq).trans (f q i hq)
    cases ht : tr q o (L j) with
    | none =>
      rw [ht] at u2
      simp only at u2
      have er' : (j, none) = ffr L n 0 0 0 := by
        rw [← er]
        unfold ffr
        rw [ht]
      rw [u2, if_pos rfl]
      refine gt_some ⟨fU, ?_, fun s hs => ?_⟩
      · unfold flt
        rw [← er']
      · rw [← er'] at hs
        cases hs
    | some s =>
      rw [ht] at u2
      simp only at u2
      have er' : ffr L m (j + 1) s.1 s.2 = ffr L n 0 0 0 := by
        rw [← er]
        conv => rhs; unfold ffr
        rw [ht]
      rw [u2.1, if_neg (by decide)]
      have hb := tr_b hq ht
      refine hk _ ⟨rfl, fU, s.1, s.2, hb.1, by omega, u2.2, ?_⟩
      rw [show n - (j + 1) = m by omega]
      exact er'
  · rintro ⟨_, T⟩ k ⟨rfl, f, q, o, hq, ho, e, er⟩
    simp only at f e
    simp only [m_Grammar_firstFault_12]
    have e1 : T (66 + 2 * r) 1 = nn n := by rw [f _ _ (by omega)]; exact h.2.1
    rw [e1, if_pos (Int32.le_refl _)]
    rw [Nat.sub_self] at er
    have er' : (n, some (q, o)) = ffr L n 0 0 0 := er
    refine gt_some ⟨f, ?_, fun s hs => ?_⟩
    · unfold flt
      rw [← er']
    · rw [← er'] at hs
      cases hs
      exact ⟨hq, ho, e⟩
  · refine ⟨rfl, f76_st (f76_st (fun _ _ _ => rfl) _ _) _ _, 0, 0, by omega, by omega, ⟨?_, ?_, fun z => absurd z (by omega)⟩, rfl⟩
    · simp only
      rw [gx_st_j _ _ _ (by omega), gx_st_eq]; rfl
    · simp only
      rw [gx_st_eq]; rfl
theorem wn_34 {q : Nat} (hq : q ≤ 7) : (wn q = 3 ∨ wn q = 4) ↔ 2 < q := by
  unfold wn
  repeat' split
  all_goals omega
theorem x_isTest {r n : Nat} {L : Nat → Nat} {S : gx_S} (h : vT r n L S) (hr : r < 5) : gt (m_Grammar_isTest r S) fun t => f76 S t.2 ∧ t.1 = ib (isT n L) := by
  have hn := h.1
  unfold m_Grammar_isTest
  refine gt_cs (x_firstFault h hr) (fun a T hT => ?_)
  obtain ⟨f, e, g⟩ := hT
  simp only at f e g
  have e1 : T (66 + 2 * r) 1 = nn n := by rw [f _ _ (by omega)]; exact h.2.1
  rw [e1, e]
  unfold m_Grammar_isTest_28 m_Grammar_isTest_39 isT flt
  rcases ffr_e (L := L) n 0 0 0 with ⟨s, h1, h2⟩ | ⟨h1, h2⟩
  · obtain ⟨g1, g2, g3, g4, g5⟩ := g s h1
    rw [h2, h1, Nat.zero_add, if_pos rfl, g3, g4]
    have hw : wn s.1 < 5 := by unfold wn; repeat' split
                               all_goals omega
    rw [show (3 : Int32) = nn 3 from rfl, show (4 : Int32) = nn 4 from rfl]
    simp only [nn_0]
    simp (disch := omega) only [nn_eq]
    have hq := wn_34 g1
    by_cases q : 2 < s.1
    · have hd : decide (2 < s.1) = true := by simpa using q
      rw [hd, Bool.true_and]
      have main : gt (if s.2 = 0 then some (1, T) else some (nn 0, T)) fun t => f76 S t.2 ∧ t.1 = ib (decide (s.2 = 0)) := by
        by_cases z : s.2 = 0
        · rw [if_pos z]; exact gt_some ⟨f, by simp [z, ib]⟩
        · rw [if_neg z]; exact gt_some ⟨f, by simp [z, ib]; rfl⟩
      rcases hq.mpr q with w | w
      · rw [if_pos w]; exact main
      · rw [if_neg (by omega), if_pos w]; exact main
    · have hd : decide (2 < s.1) = false := by simpa using q
      rw [hd, Bool.false_and, if_neg (fun z => q (hq.mp (Or.inl z))), if_neg (fun z => q (hq.mp (Or.inr z)))]
      exact gt_some ⟨f, rfl⟩
  · rw [h1, if_neg (by rw [nn_eq (by omega) (by omega)]; omega)]
    exact gt_some ⟨f, rfl⟩
theorem u_isName {c : Nat} (hc : c < 1000) (S : gx_S) : ∃ b : Bool, n_isName (nn c) S = some (ib b) ∧ (b = true ↔ nam c) := by
  unfold n_isName n_isName_24 nam
  simp only [show (115 : Int32) = nn 115 from rfl, show (111 : Int32) = nn 111 from rfl, show (114 : Int32) = nn 114 from rfl, show (100 : Int32) = nn 100 from rfl]
  simp (disch := omega) only [nn_eq]
  by_cases h1 : c = 115
  · rw [if_pos h1]; exact ⟨true, rfl, by simp [h1]⟩
  · rw [if_neg h1]
    by_cases h2 : c = 111
    · rw [if_pos h2]; exact ⟨true, rfl, by simp [h2]⟩
    · rw [if_neg h2]
      by_cases h3 : c = 114
      · rw [if_pos h3]; exact ⟨true, rfl, by simp [h3]⟩
      · rw [if_neg h3]
        by_cases h4 : c = 100
        · rw [if_pos h4]; exact ⟨true, rfl, by simp [h4]⟩
        · rw [if_neg h4]; exact ⟨false, rfl, by simp [h1, h2, h3, h4]⟩
/-- a turn of the reference's reading -/
theorem u_step {q o j c : Nat} {S : gx_S} (hq : q ≤ 7) (ho : o < 100) (hc : c < 1000) (k : Int32 × Int32 × Int32 × Int32 → Option gx_S) : (if nn q ≤ 2 then n_readPage_40 k (nn q) (nn o) (nn j) 1 (nn c) 0 S else n_readPage_40 k (nn q) (nn o) (nn j) 1 (nn c) 1 S) = match tr q o c with
    | some s => k (nn s.1, nn s.2, nn (j + 1), 1)
    | none => k (nn q, nn o, nn j, 0) := by
  obtain ⟨b, hb, hbn⟩ := u_isName hc S
  have h200 : ∀ q' o', n_readPage_200 k (nn q') (nn o') (nn j) 1 S = k (nn q', nn o', nn (j + 1), 1) := fun q' o' => by
    unfold n_readPage_200 n_readPage_211
    rw [if_neg (by decide), nn_s]
  have h0 : n_readPage_200 k (nn q) (nn o) (nn j) 0 S = k (nn q, nn o, nn j, 0) := by
    unfold n_readPage_200 n_readPage_211
    rw [if_pos rfl, Int32.add_zero]
  have t167 : n_readPage_167 k (nn o) (nn j) 1 S = k (nn 0, nn o, nn (j + 1), 1) := h200 0 o
  have t118 : n_readPage_118 k (nn o) (nn j) 1 S = k (nn 2, nn o, nn (j + 1), 1) := h200 2 o
  have t0 : n_readPage_200 k 0 (nn o) (nn j) 1 S = k (nn 0, nn o, nn (j + 1), 1) := h200 0 o
  have t1 : n_readPage_200 k 1 (nn o) (nn j) 1 S = k (nn 1, nn o, nn (j + 1), 1) := h200 1 o
  have h7 : 0 < o → n_readPage_200 k 7 (nn o + (-1)) (nn j) 1 S = k (nn 7, nn (o - 1), nn (j + 1), 1) := fun h => by
    have : nn o + (-1) = nn (o - 1) := by
      rw [← nn_p h]
      grind
    rw [this]
    exact h200 7 (o - 1)
  have l33 : (33 : Int32) = nn 33 := rfl
  have l40 : (40 : Int32) = nn 40 := rfl
  have l60 : (60 : Int32) = nn 60 := rfl
  have l61 : (61 : Int32) = nn 61 := rfl
  have l62 : (62 : Int32) = nn 62 := rfl
  have l38 : (38 : Int32) = nn 38 := rfl
  have l124 : (124 : Int32) = nn 124 := rfl
  have l41 : (41 : Int32) = nn 41 := rfl
  -- the last blocks
  have b172 : ∀ x : Int32, ((x = 0 ∧ ¬ 2 < q) ∨ (x = 1 ∧ 2 < q)) → ¬ q = 0 → ¬ q = 1 → ¬ (q < 6 ∧ dg c = true) → n_readPage_148 k (nn q) (nn o) (nn j) 1 (nn c) x S = match tr q o c with
    | some s => k (nn s.1, nn s.2, nn (j + 1), 1)
    | none => k (nn q, nn o, nn j, 0) := by
    intro x hx q0 q1 hd
    have tt : tr q o c = haveI := Classical.propDecidable; if 2 < q ∧ (c = 38 ∨ c = 124) then some (0, o) else if 2 < q ∧ c = 41 ∧ 0 < o then some (7, o - 1) else none := by
      unfold tr
      rw [if_neg q0, if_neg q1, if_neg hd]
    have cne : ∀ d, d < 1000 → ¬ c = d → ¬ nn c = nn d := fun d hd h => by rw [nn_eq (by omega) (by omega)]; exact h
    have z10 : ¬ (1 : Int32) = 0 := by decide
    unfold n_readPage_148
    rcases hx with ⟨rfl, h2⟩ | ⟨rfl, h2⟩
    · rw [if_pos rfl, tt, if_neg (fun z => h2 z.1), if_neg (fun z => h2 z.1)]
      unfold n_readPage_172
      rw [if_pos rfl]
      unfold n_readPage_197
      exact h0
    · rw [if_neg z10, l38, l124]
      by_cases c1 : c = 38
      · rw [if_pos (by rw [c1]), tt, if_pos ⟨h2, Or.inl c1⟩]; exact t167
      · rw [if_neg (cne 38 (by omega) c1)]
        by_cases c2 : c = 124
        · rw [if_pos (by rw [c2]), tt, if_pos ⟨h2, Or.inr c2⟩]; exact t167
        · rw [if_neg (cne 124 (by omega) c2), tt, if_neg (show ¬ (2 < q ∧ (c = 38 ∨ c = 124)) by omega)]
          unfold n_readPage_172
          rw [if_neg z10, l41]
          by_cases c3 : c = 41
          · rw [if_pos (by rw [c3])]
            by_cases ho0 : o = 0
            · rw [if_pos (show nn o ≤ 0 by rw [ho0]; decide), if_neg (show ¬ (2 < q ∧ c = 41 ∧ 0 < o) by omega)]
              unfold n_readPage_197
              exact h0
            · rw [if_neg (show ¬ nn o ≤ 0 by rw [nn_0, nn_le (by omega) (by omega)]; omega), if_pos (show 2 < q ∧ c = 41 ∧ 0 < o by omega)]; exact h7 (by omega)
          · rw [if_neg (cne 41 (by omega) c3), if_neg (show ¬ (2 < q ∧ c = 41 ∧ 0 < o) by omega)]
            unfold n_readPage_197
            exact h0
  -- all
  have main : ∀ x : Int32, ((x = 0 ∧ ¬ 2 < q) ∨ (x = 1 ∧ 2 < q)) → n_readPage_40 k (nn q) (nn o) (nn j) 1 (nn c) x S = match tr q o c with
    | some s => k (nn s.1, nn s.2, nn (j + 1), 1)
    | none => k (nn q, nn o, nn j, 0) := by
    intro x hx
    unfold n_readPage_40
    have cne : ∀ d, d < 1000 → ¬ c = d → ¬ nn c = nn d := fun d hd h => by rw [nn_eq (by omega) (by omega)]; exact h
    by_cases q0 : q = 0
    · subst q0
      have hx0 : x = 0 := by
        rcases hx with h | h
        · exact h.1
        · exact absurd h.2 (by decide)
      subst hx0
      have tt : tr 0 o c = haveI := Classical.propDecidable; if c = 33 then some (0, o) else if c = 40 then some (0, o + 1) else if nam c then some (1, o) else none := by
        unfold tr
        rw [if_pos rfl]
      rw [if_pos (show nn 0 = 0 from rfl), tt, l33]
      by_cases c1 : c = 33
      · rw [if_pos (by rw [c1]), if_pos c1]; exact t0
      · rw [if_neg (cne 33 (by omega) c1), if_neg c1]
        unfold n_readPage_58
        rw [if_pos (show nn 0 = 0 from rfl), l40]
        by_cases c2 : c = 40
        · rw [if_pos (by rw [c2]), if_pos c2]
          show n_readPage_200 k (nn 0) (nn o + 1) (nn j) 1 S = k (nn 0, nn (o + 1), nn (j + 1), 1)
          rw [nn_s]
          exact h200 0 (o + 1)
        · rw [if_neg (cne 40 (by omega) c2), if_neg c2]
          unfold n_readPage_75
          rw [if_pos (show nn 0 = 0 from rfl), hb, cp_s]
          by_cases hn : nam c
          · have : ¬ ib b = 0 := by rw [ib_0, hbn.mpr hn]; decide
            rw [if_neg this, if_pos hn]; exact t1
          · have : ib b = 0 := by
              rw [ib_0]
              cases hbv : b
              · rfl
              · exact absurd (hbn.mp hbv) hn
            rw [if_pos this, if_neg hn]
            unfold n_readPage_92
            rw [if_neg (show ¬ nn 0 = 1 by decide)]
            unfold n_readPage_123
            rw [if_pos (show nn 0 ≤ 1 by decide)]
            unfold n_readPage_148
            rw [if_pos rfl]
            unfold n_readPage_172
            rw [if_pos rfl]
            unfold n_readPage_197
            exact h0
    · have q0' : ¬ nn q = 0 := by rw [nn_0, nn_eq (by omega) (by omega)]; exact q0
      rw [if_neg q0']
      unfold n_readPage_58
      rw [if_neg q0']
      unfold n_readPage_75
      rw [if_neg q0']
      unfold n_readPage_92
      by_cases q1 : q = 1
      · subst q1
        have hx0 : x = 0 := by
          rcases hx with h | h
          · exact h.1
          · exact absurd h.2 (by decide)
        subst hx0
        have tt : tr 1 o c = haveI := Classical.propDecidable; if sgn c then some (2, o) else none := by
          unfold tr
          rw [if_neg (by decide), if_pos rfl]
        rw [if_pos (show nn 1 = 1 from rfl), tt, l60, l61, l62]
        by_cases c1 : c = 60
        · rw [if_pos (by rw [c1]), if_pos (show sgn c from Or.inl c1)]; exact t118
        · rw [if_neg (cne 60 (by omega) c1)]
          by_cases c2 : c = 61
          · rw [if_pos (by rw [c2]), if_pos (show sgn c from Or.inr (Or.inl c2))]; exact t118
          · rw [if_neg (cne 61 (by omega) c2)]
            by_cases c3 : c = 62
            · rw [if_pos (by rw [c3]), if_pos (show sgn c from Or.inr (Or.inr c3))]; exact t118
            · have hn : ¬ sgn c := by
                rintro (h | h | h)
                · exact c1 h
                · exact c2 h
                · exact c3 h
              rw [if_neg (cne 62 (by omega) c3), if_neg hn]
              unfold n_readPage_123
              rw [if_pos (show nn 1 ≤ 1 by decide)]
              unfold n_readPage_148
              rw [if_pos rfl]
              unfold n_readPage_172
              rw [if_pos rfl]
              unfold n_readPage_197
              exact h0
      · rw [if_neg (show ¬ nn q = 1 by rw [show (1 : Int32) = nn 1 from rfl, nn_eq (by omega) (by omega)]; exact q1)]
        unfold n_readPage_123
        rw [if_neg (show ¬ nn q ≤ 1 by rw [show (1 : Int32) = nn 1 from rfl, nn_le (by omega) (by omega)]; omega)]
        by_cases q6 : 6 ≤ q
        · rw [if_pos (show 6 ≤ nn q by rw [show (6 : Int32) = nn 6 from rfl, nn_le (by omega) (by omega)]; exact q6)]
          exact b172 x hx q0 q1 (by omega)
        · rw [if_neg (show ¬ 6 ≤ nn q by rw [show (6 : Int32) = nn 6 from rfl, nn_le (by omega) (by omega)]; exact q6), u_isDigit hc, cp_s]
          by_cases hd : dg c = true
          · have tt : tr q o c = some (q + 1, o) := by
              unfold tr
              rw [if_neg q0, if_neg q1, if_pos ⟨by omega, hd⟩]
            rw [if_neg (show ¬ ib (dg c) = 0 by rw [ib_0, hd]; decide), tt]
            show n_readPage_200 k (nn q + 1) (nn o) (nn j) 1 S = k (nn (q + 1), nn o, nn (j + 1), 1)
            rw [nn_s]
            exact h200 (q + 1) o
          · rw [if_pos (show ib (dg c) = 0 by rw [ib_0]; simpa using hd)]
            exact b172 x hx q0 q1 (fun z => hd z.2)
  by_cases q2 : q ≤ 2
  · rw [if_pos (by rw [show (2 : Int32) = nn 2 from rfl, nn_le (by omega) (by omega)]; exact q2)]
    exact main 0 (Or.inl ⟨rfl, by omega⟩)
  · rw [if_neg (by rw [show (2 : Int32) = nn 2 from rfl, nn_le (by omega) (by omega)]; exact q2)]
    exact main 1 (Or.inr ⟨rfl, by omega⟩)
theorem u_readPage {n : Nat} {L : Nat → Nat} {S : gx_S} (h : uT n L S) : gt (n_readPage S) fun T => (∀ q j, (q ≠ 0 ∨ (j ≠ 35 ∧ j ≠ 36)) → T q j = S q j) ∧ T 0 35 = nn (flt n L) ∧ T 0 36 = ib (isT n L) := by
  have hn := h.1
  have e14 := h.2.1
  have fin : ∀ j q o, (ffr L n 0 0 0 = (j, none) ∧ j < n ∨ ffr L n 0 0 0 = (j, some (q, o)) ∧ j = n) → q ≤ 7 → o ≤ n → gt (n_readPage_216 (nn q) (nn o) (nn j) S) fun T => (∀ q j, (q ≠ 0 ∨ (j ≠ 35 ∧ j ≠ 36)) → T q j = S q j) ∧ T 0 35 = nn (flt n L) ∧ T 0 36 = ib (isT n L) := by
    intro j q o hf hq ho
    have hj : j ≤ n := by rcases hf with h | h <;> omega
    have e35 : flt n L = j := by unfold flt; rcases hf with h | h <;> rw [h.1]
    have end_ : ∀ b : Bool, b = isT n L → gt (n_readPage_244 (ib b) (gx_st S 0 35 (nn j))) fun T => (∀ q j, (q ≠ 0 ∨ (j ≠ 35 ∧ j ≠ 36)) → T q j = S q j) ∧ T 0 35 = nn (flt n L) ∧ T 0 36 = ib (isT n L) := fun b hb => by
      unfold n_readPage_244
      refine gt_bz (by cases b; exact Or.inl rfl; exact Or.inr rfl) (gt_let (gt_some ⟨fun q i hq => ?_, ?_, ?_⟩))
      · by_cases z : q = 0
        · subst z
          rw [gx_st_j _ _ _ (by omega), gx_st_j _ _ _ (by omega)]
        · rw [gx_st_q _ _ _ _ z, gx_st_q _ _ _ _ z]
      · rw [gx_st_j _ _ _ (by omega), gx_st_eq, e35]
      · rw [gx_st_eq, hb]
    unfold n_readPage_216 n_readPage_243
    refine gt_let ?_
    rw [gx_st_j _ _ _ (by omega), e14]
    simp only [nn_0, show (2 : Int32) = nn 2 from rfl]
    simp (disch := omega) only [nn_eq, nn_le]
    rcases hf with ⟨h1, h2⟩ | ⟨h1, h2⟩
    · rw [if_neg (by omega)]
      exact end_ false (by unfold isT; rw [h1])
    · have hT : isT n L = (decide (2 < q) && decide (o = 0)) := by unfold isT; rw [h1]
      rw [if_pos h2]
      by_cases q2 : q ≤ 2
      · rw [if_pos q2]
        exact end_ false (by rw [hT]; have : decide (2 < q) = false := by simp; omega
                             rw [this]; rfl)
      · rw [if_neg q2]
        have : decide (2 < q) = true := by simp; omega
        by_cases o0 : o = 0
        · rw [if_pos o0]
          exact end_ true (by rw [hT, this, o0]; rfl)
        · rw [if_neg o0]
          exact end_ false (by rw [hT, this]; simp [o0])
  unfold n_readPage
  refine gt_loop (fun t => ∃ j q o, t.1 = nn q ∧ t.2.1 = nn o ∧ t.2.2.1 = nn j ∧ q ≤ 7 ∧ o ≤ j ∧ j ≤ n ∧ ((t.2.2.2 = 1 ∧ ffr L (n - j) j q o = ffr L n 0 0 0) ∨ (t.2.2.2 = 0 ∧ j < n ∧ ffr L n 0 0 0 = (j, none)))) (fun t => 2 * (n - t.2.2.1.toNatClampNeg) + (if t.2.2.2 = 1 then 1 else 0)) ?_ 5000 _ ?_ ?_
  · rintro ⟨x1, x2, x3, x4⟩ k ⟨j, q, o, rfl, rfl, rfl, hq, ho, hj, hs⟩ hk
    simp only at hs hk
    simp only [n_readPage_9]
    rw [e14]
    simp (disch := omega) only [nn_le]
    rcases hs with ⟨rfl, er⟩ | ⟨rfl, hjn, er⟩
    · by_cases hjn : n ≤ j
      · rw [if_pos hjn]
        have : j = n := by omega
        subst this
        rw [Nat.sub_self] at er
        have er' : (j, some (q, o)) = ffr L j 0 0 0 := er
        exact fin j q o (Or.inr ⟨er'.symm, rfl⟩) hq ho
      · rw [if_neg hjn, if_neg (by decide)]
        obtain ⟨e11, hL⟩ := h.2.2 j (by omega)
        simp (disch := omega) only [ck_n, nn_c, e11]
        rw [u_step hq (by omega) (by omega)]
        obtain ⟨m, hm⟩ : ∃ m, n - j = m + 1 := ⟨n - j - 1, by omega⟩
        rw [hm] at er
        cases ht : tr q o (L j) with
        | none =>
          have er' : (j, none) = ffr L n 0 0 0 := by
            rw [← er]
            unfold ffr
            rw [ht]
          refine hk _ ⟨j, q, o, rfl, rfl, rfl, hq, ho, hj, Or.inr ⟨rfl, by omega, er'.symm⟩⟩ ?_
          simp only
          simp only [↓reduceIte, if_neg (show ¬ (0 : Int32) = 1 by decide)]
          omega
        | some s =>
          have er' : ffr L m (j + 1) s.1 s.2 = ffr L n 0 0 0 := by
            rw [← er]
            conv => rhs; unfold ffr
            rw [ht]
          have hb := tr_b hq ht
          refine hk _ ⟨j + 1, s.1, s.2, rfl, rfl, rfl, hb.1, by omega, by omega, Or.inl ⟨rfl, ?_⟩⟩ ?_
          · rw [show n - (j + 1) = m by omega]; exact er'
          · simp only
            simp only [↓reduceIte]
            rw [nn_c (by omega), nn_c (by omega)]
            omega
    · rw [if_neg (by omega), if_pos rfl]
      exact fin j q o (Or.inl ⟨er, hjn⟩) hq (by omega)
  · exact ⟨0, 0, 0, rfl, rfl, rfl, by omega, by omega, by omega, Or.inl ⟨rfl, rfl⟩⟩
  · simp only [↓reduceIte, z_c]
    omega

/-! b26: a test weighed -/
def ub (f : Nat → Bool) (k : Nat) (b : Bool) : Nat → Bool := fun j => if j = k then b else f j
theorem ub_e (f : Nat → Bool) (k : Nat) (b : Bool) : ub f k b k = b := by simp [ub]
theorem ub_n (f : Nat → Bool) {k j : Nat} (b : Bool) (h : j ≠ k) : ub f k b j = f j := by simp [ub, h]
abbrev eT : Type := Nat × (Nat → Bool) × (Nat → Bool) × (Nat → Bool)
def eFac (b : Bool) (s : eT) : eT := (s.1, s.2.1, ub s.2.2.1 s.1 (s.2.2.1 s.1 && (b != s.2.2.2 s.1)), ub s.2.2.2 s.1 false)
def eOpen (s : eT) : eT := (s.1 + 1, ub s.2.1 (s.1 + 1) false, ub s.2.2.1 (s.1 + 1) true, ub s.2.2.2 (s.1 + 1) false)
def eTh (s : eT) : Bool := s.2.1 s.1 || s.2.2.1 s.1
def eShut (s : eT) : eT := eFac (eTh s) (s.1 - 1, s.2)
def eNot (s : eT) : eT := (s.1, s.2.1, s.2.2.1, ub s.2.2.2 s.1 (!s.2.2.2 s.1))
def eOr (s : eT) : eT := (s.1, ub s.2.1 s.1 (eTh s), ub s.2.2.1 s.1 true, s.2.2.2)
/-- digits from p on -/
def dig (L : Nat → Nat) : Nat → Nat → Int32 → Nat × Int32
  | 0, p, x => (p, x)
  | f + 1, p, x => if dg (L p) = true then dig L f (p + 1) (10 * x + nn (L p) - 48) else (p, x)
def cmpV (op : Nat) (v num : Int32) : Bool := if op = 60 then decide (v < num) else if op = 61 then decide (v = num) else decide (num < v)
def cmpB (n : Nat) (L : Nat → Nat) (v : Int32) (p : Nat) : Bool := cmpV (if p + 1 < n then L (p + 1) else 0) v (dig L (n - (p + 2)) (p + 2) 0).2
noncomputable def est (V : Nat → Int32) (n : Nat) (L : Nat → Nat) (p : Nat) (s : eT) : eT :=
  haveI := Classical.propDecidable
  if L p = 33 then eNot s else if L p = 40 then eOpen s else if L p = 41 then eShut s else if L p = 124 then eOr s else if nam (L p) then eFac (cmpB n L (V (L p)) p) s else s
def e0 : eT := (0, fun _ => false, fun _ => true, fun _ => false)
noncomputable def evF (V : Nat → Int32) (n : Nat) (L : Nat → Nat) : Nat → eT
  | 0 => e0
  | p + 1 => est V n L p (evF V n L p)
/-! the class's -/
def jE (s : eT) (S : gx_S) : Prop := S 77 5 = nn s.1 ∧ ∀ i, i ≤ s.1 → S 79 i = ib (s.2.1 i) ∧ S 80 i = ib (s.2.2.1 i) ∧ S 81 i = ib (s.2.2.2 i)
def fj (S T : gx_S) : Prop := ∀ q j, (q ≠ 77 ∨ j ≠ 5) → q ≠ 79 → q ≠ 80 → q ≠ 81 → T q j = S q j
theorem fj_t {S T U : gx_S} (h : fj S T) (h' : fj T U) : fj S U := fun q j a1 a2 a3 a4 => (h' q j a1 a2 a3 a4).trans (h q j a1 a2 a3 a4)
theorem nar_ib (b : Bool) : vp_nar .boolean (ib b) = ib b := nar_b (by cases b; exact Or.inl rfl; exact Or.inr rfl)
theorem x_termsHold {s : eT} {S : gx_S} (h : jE s S) (hd : s.1 ≤ 50) : m_Judge_termsHold S = some (ib (eTh s)) := by
  obtain ⟨h1, h2⟩ := h
  obtain ⟨a1, a2, a3⟩ := h2 s.1 (Nat.le_refl _)
  unfold m_Judge_termsHold m_Judge_termsHold_24 eTh
  rw [h1]
  simp (disch := omega) only [ck_n, nn_c, a1, a2, ib_0]
  cases s.2.1 s.1 with
  | true => rw [if_neg (by decide)]; rfl
  | false =>
    rw [if_pos rfl]
    cases s.2.2.1 s.1 with
    | true => rw [if_neg (by decide)]; rfl
    | false => rw [if_pos rfl]; rfl
theorem x_takeFactor {s : eT} {S : gx_S} (h : jE s S) (hd : s.1 ≤ 50) (b : Bool) : gt (m_Judge_takeFactor (ib b) S) fun T => fj S T ∧ jE (eFac b s) T := by
  obtain ⟨h1, h2⟩ := h
  obtain ⟨a1, a2, a3⟩ := h2 s.1 (Nat.le_refl _)
  have main : ∀ x : Bool, x = (s.2.2.1 s.1 && (b != s.2.2.2 s.1)) → gt (m_Judge_takeFactor_38 (nn s.1) (ib x) S) fun T => fj S T ∧ jE (eFac b s) T := fun x hx => by
    unfold m_Judge_takeFactor_38
    rw [nar_ib]
    simp (disch := omega) only [ck_n, nn_c, let_s, gx_st_q, h1, nar_b (Or.inl rfl)]
    refine gt_some ⟨fun q j b1 b2 b3 b4 => ?_, ?_, fun i hi => ?_⟩
    · rw [gx_st_q _ _ _ _ b4, gx_st_q _ _ _ _ b3]
    · rw [gx_st_q _ _ _ _ (by omega), gx_st_q _ _ _ _ (by omega)]; exact h1
    · obtain ⟨c1, c2, c3⟩ := h2 i hi
      rw [gx_st_q _ _ _ _ (by omega), gx_st_q _ _ _ _ (by omega), gx_st_q _ _ _ _ (by omega)]
      refine ⟨c1, ?_, ?_⟩
      · show _ = ib (ub _ _ _ i)
        by_cases z : i = s.1
        · rw [z, gx_st_eq, ub_e, hx]
        · rw [gx_st_j _ _ _ z, ub_n _ _ z]; exact c2
      · show _ = ib (ub _ _ _ i)
        by_cases z : i = s.1
        · rw [z, gx_st_eq, ub_e]; rfl
        · rw [gx_st_j _ _ _ z, ub_n _ _ z, gx_st_q _ _ _ _ (by omega)]; exact c3
  unfold m_Judge_takeFactor m_Judge_takeFactor_37
  rw [h1]
  simp (disch := omega) only [ck_n, nn_c, a2, a3, ib_0]
  cases hB : s.2.2.1 s.1 with
  | false => rw [if_pos rfl]; exact main false (by rw [hB]; rfl)
  | true =>
    rw [if_neg (by decide)]
    cases hC : s.2.2.2 s.1 with
    | false =>
      cases b with
      | false => rw [if_pos rfl]; exact main false (by rw [hB, hC]; rfl)
      | true => rw [if_neg (by decide)]; exact main true (by rw [hB, hC]; rfl)
    | true =>
      cases b with
      | false => rw [if_neg (by decide)]; exact main true (by rw [hB, hC]; rfl)
      | true => rw [if_pos rfl]; exact main false (by rw [hB, hC]; rfl)
theorem x_startTerms {d : Nat} {s : eT} {S : gx_S} (h1 : S 77 5 = nn d) (hd : d ≤ 50) (h2 : ∀ i, i < d → S 79 i = ib (s.2.1 i) ∧ S 80 i = ib (s.2.2.1 i) ∧ S 81 i = ib (s.2.2.2 i)) : gt (m_Judge_startTerms S) fun T => fj S T ∧ jE (d, ub s.2.1 d false, ub s.2.2.1 d true, ub s.2.2.2 d false) T := by
  unfold m_Judge_startTerms
  rw [h1, nar_b (Or.inl rfl), nar_b (Or.inr rfl)]
  simp (disch := omega) only [ck_n, nn_c, let_s, gx_st_q, h1]
  refine gt_some ⟨fun q j b1 b2 b3 b4 => ?_, ?_, fun i hi => ?_⟩
  · rw [gx_st_q _ _ _ _ b4, gx_st_q _ _ _ _ b3, gx_st_q _ _ _ _ b2]
  · rw [gx_st_q _ _ _ _ (by omega), gx_st_q _ _ _ _ (by omega), gx_st_q _ _ _ _ (by omega)]; exact h1
  · show _ = ib (ub _ _ _ i) ∧ _ = ib (ub _ _ _ i) ∧ _ = ib (ub _ _ _ i)
    by_cases z : i = d
    · subst z
      rw [ub_e, ub_e, ub_e]
      simp (disch := omega) only [gx_st_q, gx_st_eq]
      exact ⟨rfl, rfl, rfl⟩
    · obtain ⟨c1, c2, c3⟩ := h2 i (by simp only at hi; omega)
      rw [ub_n _ _ z, ub_n _ _ z, ub_n _ _ z]
      simp (disch := omega) only [gx_st_q, gx_st_j]
      exact ⟨c1, c2, c3⟩
theorem x_comparison {r n p : Nat} {L : Nat → Nat} {S : gx_S} (h : vT r n L S) (hp : p < n) (v : Int32) : m_Judge_comparisonHolds r v (nn (p + 1)) S = some (ib (cmpB n L v p)) := by
  have hn := h.1
  have e1 := h.2.1
  have fin : ∀ num, m_Judge_comparisonHolds_49 r v (nn (p + 1)) num S = some (ib (cmpV (if p + 1 < n then L (p + 1) else 0) v num)) := fun num => by
    unfold m_Judge_comparisonHolds_49 cmpV
    rw [x_at h (by omega), cp_s]
    have hop : ∃ c, c < 1000 ∧ (if p + 1 < n then nn (L (p + 1)) else 0) = nn c ∧ (if p + 1 < n then L (p + 1) else 0) = c := by
      by_cases q : p + 1 < n
      · rw [if_pos q, if_pos q]
        have := (h.2.2 _ q).2
        exact ⟨_, by omega, rfl, rfl⟩
      · rw [if_neg q, if_neg q]
        exact ⟨0, by omega, rfl, rfl⟩
    obtain ⟨c, hc, e1, e2⟩ := hop
    rw [e1, e2, show (60 : Int32) = nn 60 from rfl, show (61 : Int32) = nn 61 from rfl]
    simp (disch := omega) only [nn_eq]
    by_cases c1 : c = 60
    · rw [if_pos c1, if_pos c1]
      by_cases z : num ≤ v
      · rw [if_pos z]
        have : decide (v < num) = false := by simp; lia
        rw [this]; rfl
      · rw [if_neg z]
        have : decide (v < num) = true := by simp; lia
        rw [this]; rfl
    · rw [if_neg c1, if_neg c1]
      by_cases c2 : c = 61
      · rw [if_pos c2, if_pos c2]
        by_cases z : v = num
        · rw [if_pos z]
          have : decide (v = num) = true := by simp [z]
          rw [this]; rfl
        · rw [if_neg z]
          have : decide (v = num) = false := by simp [z]
          rw [this]; rfl
      · rw [if_neg c2, if_neg c2]
        by_cases z : v ≤ num
        · rw [if_pos z]
          have : decide (num < v) = false := by simp; lia
          rw [this]; rfl
        · rw [if_neg z]
          have : decide (num < v) = true := by simp; lia
          rw [this]; rfl
  unfold m_Judge_comparisonHolds cmpB
  have loop : ∀ f e num m, e + f = max n (p + 2) → f < m → (p + 2 ≤ e) → gx_loop (m_Judge_comparisonHolds_7 r v (nn (p + 1)) S) m (num, nn e) = some (ib (cmpV (if p + 1 < n then L (p + 1) else 0) v (dig L f e num).2)) := by
    intro f
    induction f with
    | zero =>
      intro e num m h1 h2 h3
      obtain ⟨m', rfl⟩ : ∃ m', m = m' + 1 := ⟨m - 1, by omega⟩
      rw [gx_loop_s]
      simp only [m_Judge_comparisonHolds_7]
      rw [e1, if_pos (by rw [nn_le (by omega) (by omega)]; omega)]
      exact fin num
    | succ f ih =>
      intro e num m h1 h2 h3
      obtain ⟨m', rfl⟩ : ∃ m', m = m' + 1 := ⟨m - 1, by omega⟩
      have he : e < n := by omega
      have hL := (h.2.2 e he).2
      rw [gx_loop_s]
      simp only [m_Judge_comparisonHolds_7]
      rw [e1, if_neg (by rw [nn_le (by omega) (by omega)]; omega), x_at h (by omega), cp_s, if_pos he, x_isDigit (by omega), cp_s]
      unfold dig
      cases hd : dg (L e) with
      | false =>
        rw [if_pos (by rfl)]
        exact fin num
      | true =>
        rw [if_neg (by decide), if_pos rfl, cp_s, nn_s]
        exact ih (e + 1) _ m' (by omega) (by omega) (by omega)
  rw [nn_s]
  exact loop (n - (p + 2)) (p + 2) 0 5000 (by omega) (by omega) (Nat.le_refl _)
/-- a letter of a test read by the class -/
theorem x_readLetter {G D : gx_S} {a b : Nat} {r n p : Nat} {L : Nat → Nat} {s : eT} {S : gx_S} (h : vT r n L S) (hp : p < n) (hv : jV G D a b S) (e : jE s S) (hd : s.1 ≤ 49) (hs : L p = 41 → 0 < s.1) : gt (m_Judge_readLetter r (nn p) S) fun T => fj S T ∧ jE (est (val G D a b) n L p s) T := by
  have hn := h.1
  obtain ⟨h1, h2⟩ := id e
  obtain ⟨a1, a2, a3⟩ := h2 s.1 (Nat.le_refl _)
  have hL := (h.2.2 p hp).2
  obtain ⟨v1, v2, v3, v4⟩ := hv
  have cne : ∀ d, d < 1000 → ¬ L p = d → ¬ nn (L p) = nn d := fun d hd h => by rw [nn_eq (by omega) (by omega)]; exact h
  have rfl' : fj S S := fun _ _ _ _ _ _ => rfl
  unfold m_Judge_readLetter
  rw [x_at h (by omega), if_pos hp, cp_s, nn_s]
  rw [show (33 : Int32) = nn 33 from rfl, show (40 : Int32) = nn 40 from rfl, show (41 : Int32) = nn 41 from rfl, show (100 : Int32) = nn 100 from rfl, show (111 : Int32) = nn 111 from rfl, show (114 : Int32) = nn 114 from rfl, show (115 : Int32) = nn 115 from rfl, show (124 : Int32) = nn 124 from rfl]
  unfold est
  by_cases c33 : L p = 33
  · rw [if_pos (by rw [c33]), if_pos c33, h1]
    simp (disch := omega) only [ck_n, nn_c, a3, ib_0]
    have main : ∀ x : Bool, x = !s.2.2.2 s.1 → gt (m_Judge_readLetter_105 r (nn s.1) (ib x) S) fun T => fj S T ∧ jE (eNot s) T := fun x hx => by
      unfold m_Judge_readLetter_105
      rw [nar_ib]
      simp (disch := omega) only [ck_n, nn_c, let_s]
      refine gt_some ⟨fun q j b1 b2 b3 b4 => gx_st_q _ _ _ _ b4, ?_, fun i hi => ?_⟩
      · rw [gx_st_q _ _ _ _ (by omega)]; exact h1
      · obtain ⟨c1, c2, c3⟩ := h2 i hi
        rw [gx_st_q _ _ _ _ (by omega), gx_st_q _ _ _ _ (by omega)]
        refine ⟨c1, c2, ?_⟩
        show _ = ib (ub _ _ _ i)
        by_cases z : i = s.1
        · rw [z, gx_st_eq, ub_e, hx]
        · rw [gx_st_j _ _ _ z, ub_n _ _ z]; exact c3
    cases hC : s.2.2.2 s.1 with
    | false => rw [if_pos rfl]; exact main true (by rw [hC]; rfl)
    | true => rw [if_neg (by decide)]; exact main false (by rw [hC]; rfl)
  · rw [if_neg (cne 33 (by omega) c33), if_neg c33]
    by_cases c40 : L p = 40
    · rw [if_pos (by rw [c40]), if_pos c40, h1, if_neg (by rw [show (50 : Int32) = nn 50 from rfl, nn_le (by omega) (by omega)]; omega)]
      rw [nn_s]
      refine gt_let ?_
      refine gt_cp (x_startTerms (d := s.1 + 1) (s := s) (gx_st_eq _ _ _ _) (by omega) (fun i hi => ?_)) (fun T hT => gt_some ⟨?_, hT.2⟩)
      · rw [gx_st_q _ _ _ _ (by omega), gx_st_q _ _ _ _ (by omega), gx_st_q _ _ _ _ (by omega)]
        exact h2 i (by omega)
      · intro q j b1 b2 b3 b4
        rw [hT.1 q j b1 b2 b3 b4]
        by_cases z : q = 77
        · subst z; exact gx_st_j _ _ _ (by omega)
        · exact gx_st_q _ _ _ _ z
    · rw [if_neg (cne 40 (by omega) c40), if_neg c40]
      by_cases c41 : L p = 41
      · have hs1 := hs c41
        rw [if_pos (by rw [c41]), if_pos c41, x_termsHold e (by omega), cp_s, h1, if_neg (by rw [nn_0, nn_le (by omega) (by omega)]; omega), nn_p hs1]
        refine gt_let ?_
        have e' : jE (s.1 - 1, s.2) (gx_st S 77 5 (nn (s.1 - 1))) := ⟨gx_st_eq _ _ _ _, fun i hi => by
          rw [gx_st_q _ _ _ _ (by omega), gx_st_q _ _ _ _ (by omega), gx_st_q _ _ _ _ (by omega)]
          exact h2 i (by simp only at hi; omega)⟩
        refine gt_cp (x_takeFactor e' (by simp only; omega) (eTh s)) (fun T hT => gt_some ⟨?_, hT.2⟩)
        intro q j b1 b2 b3 b4
        rw [hT.1 q j b1 b2 b3 b4]
        by_cases z : q = 77
        · subst z; exact gx_st_j _ _ _ (by omega)
        · exact gx_st_q _ _ _ _ z
      · rw [if_neg (cne 41 (by omega) c41), if_neg c41]
        have fac : ∀ v, v = val G D a b (L p) → nam (L p) → ¬ L p = 124 → gt (gx_cp (m_Judge_comparisonHolds r v (nn (p + 1)) S) fun v60 => gx_cp (m_Judge_takeFactor v60 S) fun S62 => some S62) fun T => fj S T ∧ jE (haveI := Classical.propDecidable; if L p = 124 then eOr s else if nam (L p) then eFac (cmpB n L (val G D a b (L p)) p) s else s) T := fun v hv hnm h124 => by
          rw [x_comparison h hp, cp_s, if_neg h124, if_pos hnm, hv]
          exact gt_cp (x_takeFactor e (by omega) _) (fun T hT => gt_some hT)
        by_cases c100 : L p = 100
        · rw [if_pos (by rw [c100])]
          exact fac _ (by rw [v4, c100]) (Or.inr (Or.inr (Or.inr c100))) (by omega)
        · rw [if_neg (cne 100 (by omega) c100)]
          by_cases c111 : L p = 111
          · rw [if_pos (by rw [c111])]
            exact fac _ (by rw [v2, c111]) (Or.inr (Or.inl c111)) (by omega)
          · rw [if_neg (cne 111 (by omega) c111)]
            by_cases c114 : L p = 114
            · rw [if_pos (by rw [c114])]
              exact fac _ (by rw [v3, c114]) (Or.inr (Or.inr (Or.inl c114))) (by omega)
            · rw [if_neg (cne 114 (by omega) c114)]
              by_cases c115 : L p = 115
              · rw [if_pos (by rw [c115])]
                exact fac _ (by rw [v1, c115]) (Or.inl c115) (by omega)
              · rw [if_neg (cne 115 (by omega) c115)]
                have hno : ¬ nam (L p) := by
                  rintro (z | z | z | z)
                  · exact c115 z
                  · exact c111 z
                  · exact c114 z
                  · exact c100 z
                by_cases c124 : L p = 124
                · rw [if_pos (by rw [c124]), if_pos c124, h1]
                  simp (disch := omega) only [ck_n, nn_c, a1, a2, ib_0]
                  have main : ∀ x : Bool, x = eTh s → gt (m_Judge_readLetter_146 r (nn s.1) (ib x) S) fun T => fj S T ∧ jE (eOr s) T := fun x hx => by
                    unfold m_Judge_readLetter_146
                    rw [nar_ib, nar_b (Or.inr rfl)]
                    simp (disch := omega) only [ck_n, nn_c, let_s, gx_st_q, h1]
                    refine gt_some ⟨fun q j b1 b2 b3 b4 => ?_, ?_, fun i hi => ?_⟩
                    · rw [gx_st_q _ _ _ _ b3, gx_st_q _ _ _ _ b2]
                    · rw [gx_st_q _ _ _ _ (by omega), gx_st_q _ _ _ _ (by omega)]; exact h1
                    · obtain ⟨c1, c2, c3⟩ := h2 i hi
                      refine ⟨?_, ?_, ?_⟩
                      · show _ = ib (ub _ _ _ i)
                        rw [gx_st_q _ _ _ _ (by omega)]
                        by_cases z : i = s.1
                        · rw [z, gx_st_eq, ub_e, hx]
                        · rw [gx_st_j _ _ _ z, ub_n _ _ z]; exact c1
                      · show _ = ib (ub _ _ _ i)
                        by_cases z : i = s.1
                        · rw [z, gx_st_eq, ub_e]; rfl
                        · rw [gx_st_j _ _ _ z, ub_n _ _ z, gx_st_q _ _ _ _ (by omega)]; exact c2
                      · rw [gx_st_q _ _ _ _ (by omega), gx_st_q _ _ _ _ (by omega)]; exact c3
                  unfold m_Judge_readLetter_141
                  unfold eTh at main
                  cases hA : s.2.1 s.1 with
                  | true => rw [if_neg (by decide)]; exact main true (by rw [hA]; rfl)
                  | false =>
                    rw [if_pos rfl]
                    cases hB : s.2.2.1 s.1 with
                    | true => rw [if_neg (by decide)]; exact main true (by rw [hA, hB]; rfl)
                    | false => rw [if_pos rfl]; exact main false (by rw [hA, hB]; rfl)
                · rw [if_neg (cne 124 (by omega) c124), if_neg c124, if_neg hno]
                  exact gt_some ⟨rfl', e⟩
theorem tr_o {q o c : Nat} {s : Nat × Nat} (h : tr q o c = some s) : s.2 = (if c = 40 then o + 1 else if c = 41 then o - 1 else o) ∧ (c = 41 → 0 < o) := by
  have key : ∀ q' o', some (q', o') = some s → o' = s.2 := fun q' o' e => by cases e; rfl
  unfold tr at h
  by_cases q0 : q = 0
  · rw [if_pos q0] at h
    by_cases c1 : c = 33
    · rw [if_pos c1] at h
      rw [← key _ _ h, c1]
      exact ⟨rfl, fun z => absurd z (by decide)⟩
    · rw [if_neg c1] at h
      by_cases c2 : c = 40
      · rw [if_pos c2] at h
        rw [← key _ _ h, c2]
        exact ⟨rfl, fun z => absurd z (by decide)⟩
      · rw [if_neg c2] at h
        by_cases c3 : nam c
        · rw [if_pos c3] at h
          rw [← key _ _ h]
          rcases c3 with rfl | rfl | rfl | rfl <;> exact ⟨rfl, fun z => absurd z (by decide)⟩
        · rw [if_neg c3] at h
          cases h
  · rw [if_neg q0] at h
    by_cases q1 : q = 1
    · rw [if_pos q1] at h
      by_cases c3 : sgn c
      · rw [if_pos c3] at h
        rw [← key _ _ h]
        rcases c3 with rfl | rfl | rfl <;> exact ⟨rfl, fun z => absurd z (by decide)⟩
      · rw [if_neg c3] at h
        cases h
    · rw [if_neg q1] at h
      by_cases c4 : q < 6 ∧ dg c = true
      · rw [if_pos c4] at h
        rw [← key _ _ h]
        have h48 : 48 ≤ c := by
          have := c4.2
          unfold dg at this
          simp at this
          omega
        rw [if_neg (by omega), if_neg (by omega)]
        exact ⟨rfl, fun z => by omega⟩
      · rw [if_neg c4] at h
        by_cases c5 : 2 < q ∧ (c = 38 ∨ c = 124)
        · rw [if_pos c5] at h
          rw [← key _ _ h, if_neg (by omega), if_neg (by omega)]
          exact ⟨rfl, fun z => by omega⟩
        · rw [if_neg c5] at h
          by_cases c6 : 2 < q ∧ c = 41 ∧ 0 < o
          · rw [if_pos c6] at h
            rw [← key _ _ h, if_neg (by omega), if_pos c6.2.1]
            exact ⟨rfl, fun _ => c6.2.2⟩
          · rw [if_neg c6] at h
            cases h

/-! b27: whether a test holds, both -/
theorem jE_cg {d : Nat} {A B C A' B' C' : Nat → Bool} {S : gx_S} (h : jE (d, A, B, C) S) (h1 : ∀ i, i ≤ d → A i = A' i ∧ B i = B' i ∧ C i = C' i) : jE (d, A', B', C') S := ⟨h.1, fun i hi => by
  obtain ⟨a, b, c⟩ := h1 i hi
  show _ = ib (A' i) ∧ _ = ib (B' i) ∧ _ = ib (C' i)
  rw [← a, ← b, ← c]
  exact h.2 i hi⟩
theorem est_d (V : Nat → Int32) (n : Nat) (L : Nat → Nat) (p : Nat) (s : eT) : (est V n L p s).1 = if L p = 40 then s.1 + 1 else if L p = 41 then s.1 - 1 else s.1 := by
  unfold est
  by_cases c33 : L p = 33
  · rw [if_pos c33, if_neg (by omega), if_neg (by omega)]; rfl
  · rw [if_neg c33]
    by_cases c40 : L p = 40
    · rw [if_pos c40, if_pos c40]; rfl
    · rw [if_neg c40, if_neg c40]
      by_cases c41 : L p = 41
      · rw [if_pos c41, if_pos c41]; rfl
      · rw [if_neg c41, if_neg c41]
        split
        · rfl
        · split <;> rfl
theorem est_id {V : Nat → Int32} {n : Nat} {L : Nat → Nat} {p : Nat} {s : eT} (h : 48 ≤ L p ∧ L p ≤ 62) : est V n L p s = s := by
  unfold est
  rw [if_neg (by omega), if_neg (by omega), if_neg (by omega), if_neg (by omega), if_neg (by unfold nam; omega)]
/-- the text is a test -/
def okT (n : Nat) (L : Nat → Nat) (F : Nat × Option (Nat × Nat)) : Prop := ∃ s, F = (n, some s) ∧ 2 < s.1 ∧ s.2 = 0
theorem isT_ok {n : Nat} {L : Nat → Nat} (h : isT n L = true) : okT n L (ffr L n 0 0 0) := by
  unfold isT at h
  rcases ffr_e (L := L) n 0 0 0 with ⟨s, h1, h2⟩ | ⟨h1, h2⟩
  · rw [h1] at h
    simp at h
    have h3 : (ffr L n 0 0 0).1 = n := by omega
    exact ⟨s, Prod.ext h3 h1, h.1, h.2⟩
  · rw [h1] at h
    simp at h
theorem ffr_s {n m j q o : Nat} {L : Nat → Nat} {F : Nat × Option (Nat × Nat)} (hF : okT n L F) (h : ffr L (m + 1) j q o = F) : ∃ s, tr q o (L j) = some s ∧ ffr L m (j + 1) s.1 s.2 = F := by
  obtain ⟨s, e, _⟩ := hF
  unfold ffr at h
  cases ht : tr q o (L j) with
  | none => rw [ht] at h; rw [e] at h; cases h
  | some s' => rw [ht] at h; exact ⟨s', rfl, h⟩
theorem ffr_z {n j q o : Nat} {L : Nat → Nat} {F : Nat × Option (Nat × Nat)} (hF : okT n L F) (h : ffr L 0 j q o = F) : j = n ∧ 2 < q ∧ o = 0 := by
  obtain ⟨s, e, h1, h2⟩ := hF
  have h : (j, some (q, o)) = F := h
  rw [e] at h
  cases h
  exact ⟨rfl, h1, h2⟩
theorem jV_f {G D : gx_S} {a b : Nat} {S T : gx_S} (h : jV G D a b S) (f : fj S T) : jV G D a b T := by
  obtain ⟨h1, h2, h3, h4⟩ := h
  refine ⟨?_, ?_, ?_, ?_⟩
  · rw [f _ _ (by omega) (by omega) (by omega) (by omega)]; exact h1
  · rw [f _ _ (by omega) (by omega) (by omega) (by omega)]; exact h2
  · rw [f _ _ (by omega) (by omega) (by omega) (by omega)]; exact h3
  · rw [f _ _ (by omega) (by omega) (by omega) (by omega)]; exact h4
theorem x_holds {G D : gx_S} {a b : Nat} {r n : Nat} {L : Nat → Nat} {S : gx_S} (h : vT r n L S) (hr : r < 5) (hv : jV G D a b S) (hT : isT n L = true) : gt (m_Judge_holds r S) fun t => fj S t.2 ∧ t.1 = ib (eTh (evF (val G D a b) n L n)) := by
  have hn := h.1
  have hF := isT_ok hT
  unfold m_Judge_holds
  refine gt_let ?_
  refine gt_cp (x_startTerms (d := 0) (s := e0) (gx_st_eq _ _ _ _) (by omega) (fun i hi => absurd hi (by omega))) (fun T0 hT0 => ?_)
  obtain ⟨f0, j0⟩ := hT0
  have f0' : fj S T0 := fun q j b1 b2 b3 b4 => by
    rw [f0 q j b1 b2 b3 b4]
    by_cases z : q = 77
    · subst z; exact gx_st_j _ _ _ (by omega)
    · exact gx_st_q _ _ _ _ z
  have j0' : jE e0 T0 := jE_cg j0 (fun i hi => by
    have : i = 0 := by omega
    subst this
    exact ⟨rfl, rfl, rfl⟩)
  refine gt_for n (fun p t => t.1 = nn p ∧ fj S t.2 ∧ jE (evF (val G D a b) n L p) t.2 ∧ ∃ q, q ≤ 7 ∧ (evF (val G D a b) n L p).1 ≤ p ∧ ffr L (n - p) p q (evF (val G D a b) n L p).1 = ffr L n 0 0 0) ?_ ?_ 0 5000 _ (by omega) ?_ (by omega)
  · rintro p ⟨_, T⟩ k hp ⟨rfl, f, e, q, hq, ho, er⟩ hk
    simp only at f e
    simp only [m_Judge_holds_11]
    have hvT : vT r n L T := ⟨hn, by rw [f _ _ (by omega) (by omega) (by omega) (by omega)]; exact h.2.1, fun i hi => by rw [f _ _ (by omega) (by omega) (by omega) (by omega)]; exact h.2.2 i hi⟩
    obtain ⟨m, hm⟩ : ∃ m, n - p = m + 1 := ⟨n - p - 1, by omega⟩
    rw [hm] at er
    obtain ⟨s, ht, er'⟩ := ffr_s hF er
    obtain ⟨t1, t2⟩ := tr_o ht
    rw [hvT.2.1, if_neg (by rw [nn_le (by omega) (by omega)]; omega)]
    refine gt_cp (x_readLetter hvT hp (jV_f hv f) e (by omega) t2) (fun U hU => ?_)
    obtain ⟨u1, u2⟩ := hU
    have ed : (evF (val G D a b) n L (p + 1)).1 = s.2 := by
      show (est (val G D a b) n L p (evF (val G D a b) n L p)).1 = s.2
      rw [est_d, t1]
    rw [nn_s]
    have hb := tr_b hq ht
    refine hk _ ⟨rfl, fj_t f u1, u2, s.1, hb.1, by rw [ed]; omega, ?_⟩
    rw [ed, show n - (p + 1) = m by omega]
    exact er'
  · rintro ⟨_, T⟩ k ⟨rfl, f, e, q, hq, ho, er⟩
    simp only at f e
    simp only [m_Judge_holds_11]
    have e1 : T (66 + 2 * r) 1 = nn n := by rw [f _ _ (by omega) (by omega) (by omega) (by omega)]; exact h.2.1
    rw [e1, if_pos (Int32.le_refl _), x_termsHold e (by omega), cp_s]
    refine gt_bz (by cases eTh (evF (val G D a b) n L n); exact Or.inl rfl; exact Or.inr rfl) (gt_some ⟨f, rfl⟩)
  · exact ⟨rfl, f0', j0', 0, by omega, Nat.le_refl _, rfl⟩
/-! the reference's -/
def uE (s : eT) (T : gx_S) : Prop := T 0 40 = nn s.1 ∧ ∀ i, i ≤ s.1 → T 23 i = ib (s.2.1 i) ∧ T 24 i = ib (s.2.2.1 i) ∧ T 25 i = ib (s.2.2.2 i)
def fk (S T : gx_S) : Prop := ∀ q j, (q ≠ 0 ∨ j ≠ 40) → q ≠ 15 → q ≠ 23 → q ≠ 24 → q ≠ 25 → T q j = S q j
theorem fk_r (S : gx_S) : fk S S := fun _ _ _ _ _ _ _ => rfl
theorem fk_t {S T U : gx_S} (h : fk S T) (h' : fk T U) : fk S U := fun q j a1 a2 a3 a4 a5 => (h' q j a1 a2 a3 a4 a5).trans (h q j a1 a2 a3 a4 a5)
theorem pU_k {G D S T : gx_S} {sh : Int32} (h : pU G D sh S) (f : fk S T) : pU G D sh T := pU_f h (fun q j hq => f q j (by omega) (by omega) (by omega) (by omega) (by omega))
theorem u_openGroup {d : Nat} {s : eT} {S : gx_S} (h1 : S 0 40 + 1 = nn d) (hd : d ≤ 50) (h2 : ∀ i, i < d → S 23 i = ib (s.2.1 i) ∧ S 24 i = ib (s.2.2.1 i) ∧ S 25 i = ib (s.2.2.2 i)) : gt (n_openGroup S) fun T => fk S T ∧ uE (d, ub s.2.1 d false, ub s.2.2.1 d true, ub s.2.2.2 d false) T := by
  unfold n_openGroup
  rw [h1, nar_b (Or.inl rfl), nar_b (Or.inr rfl)]
  simp (disch := omega) only [let_s, gx_st_eq, gx_st_q, nn_c, ck_n]
  refine gt_some ⟨fun q j b1 b2 b3 b4 b5 => ?_, ?_, fun i hi => ?_⟩
  · rw [gx_st_q _ _ _ _ b5, gx_st_q _ _ _ _ b4, gx_st_q _ _ _ _ b3]
    by_cases z : q = 0
    · subst z; exact gx_st_j _ _ _ (by omega)
    · exact gx_st_q _ _ _ _ z
  · simp (disch := omega) only [gx_st_q, gx_st_eq]
  · show _ = ib (ub _ _ _ i) ∧ _ = ib (ub _ _ _ i) ∧ _ = ib (ub _ _ _ i)
    by_cases z : i = d
    · subst z
      rw [ub_e, ub_e, ub_e]
      simp (disch := omega) only [gx_st_q, gx_st_eq]
      exact ⟨rfl, rfl, rfl⟩
    · obtain ⟨c1, c2, c3⟩ := h2 i (by simp only at hi; omega)
      rw [ub_n _ _ z, ub_n _ _ z, ub_n _ _ z]
      simp (disch := omega) only [gx_st_q, gx_st_j]
      exact ⟨c1, c2, c3⟩
theorem u_factor {s : eT} {S : gx_S} (h : uE s S) (hd : s.1 ≤ 50) (b : Bool) : gt (n_factor (ib b) S) fun T => fk S T ∧ uE (eFac b s) T := by
  obtain ⟨h1, h2⟩ := h
  obtain ⟨a1, a2, a3⟩ := h2 s.1 (Nat.le_refl _)
  have main : ∀ x : Bool, x = (s.2.2.1 s.1 && (b != s.2.2.2 s.1)) → gt (n_factor_38 (nn s.1) (ib x) S) fun T => fk S T ∧ uE (eFac b s) T := fun x hx => by
    unfold n_factor_38
    rw [nar_ib]
    simp (disch := omega) only [ck_n, nn_c, let_s, gx_st_q, h1, nar_b (Or.inl rfl)]
    refine gt_some ⟨fun q j b1 b2 b3 b4 b5 => ?_, ?_, fun i hi => ?_⟩
    · rw [gx_st_q _ _ _ _ b5, gx_st_q _ _ _ _ b4]
    · rw [gx_st_q _ _ _ _ (by omega), gx_st_q _ _ _ _ (by omega)]; exact h1
    · obtain ⟨c1, c2, c3⟩ := h2 i hi
      rw [gx_st_q _ _ _ _ (by omega), gx_st_q _ _ _ _ (by omega), gx_st_q _ _ _ _ (by omega)]
      refine ⟨c1, ?_, ?_⟩
      · show _ = ib (ub _ _ _ i)
        by_cases z : i = s.1
        · rw [z, gx_st_eq, ub_e, hx]
        · rw [gx_st_j _ _ _ z, ub_n _ _ z]; exact c2
      · show _ = ib (ub _ _ _ i)
        by_cases z : i = s.1
        · rw [z, gx_st_eq, ub_e]; rfl
        · rw [gx_st_j _ _ _ z, ub_n _ _ z, gx_st_q _ _ _ _ (by omega)]; exact c3
  unfold n_factor n_factor_37
  rw [h1]
  simp (disch := omega) only [ck_n, nn_c, a2, a3, ib_0]
  cases hB : s.2.2.1 s.1 with
  | false => rw [if_pos rfl]; exact main false (by rw [hB]; rfl)
  | true =>
    rw [if_neg (by decide)]
    cases hC : s.2.2.2 s.1 with
    | false =>
      cases b with
      | false => rw [if_pos rfl]; exact main false (by rw [hB, hC]; rfl)
      | true => rw [if_neg (by decide)]; exact main true (by rw [hB, hC]; rfl)
    | true =>
      cases b with
      | false => rw [if_neg (by decide)]; exact main true (by rw [hB, hC]; rfl)
      | true => rw [if_pos rfl]; exact main false (by rw [hB, hC]; rfl)
/-- the reference's test t -/
def uQ (t n : Nat) (L : Nat → Nat) (T : gx_S) : Prop := n ≤ 50 ∧ T 10 t = nn n ∧ ∀ j, j < n → T 9 (50 * t + j) = nn (L j) ∧ L j ≤ 126
theorem uQ_k {t n : Nat} {L : Nat → Nat} {S T : gx_S} (h : uQ t n L S) (f : fk S T) : uQ t n L T := ⟨h.1, by rw [f _ _ (by omega) (by omega) (by omega) (by omega) (by omega)]; exact h.2.1, fun j hj => by rw [f _ _ (by omega) (by omega) (by omega) (by omega) (by omega)]; exact h.2.2 j hj⟩
theorem dig_le {L : Nat → Nat} : ∀ (f p : Nat) (x : Int32), p ≤ (dig L f p x).1 ∧ (dig L f p x).1 ≤ p + f
  | 0, p, x => ⟨Nat.le_refl _, Nat.le_refl _⟩
  | f + 1, p, x => by
    unfold dig
    split
    · have := dig_le (L := L) f (p + 1) (10 * x + nn (L p) - 48)
      omega
    · exact ⟨Nat.le_refl _, by simp only; omega⟩
/-- behind the digits the reading stands at a bound -/
theorem dig_b {V : Nat → Int32} {n : Nat} {L : Nat → Nat} {F : Nat × Option (Nat × Nat)} (hF : okT n L F) : ∀ (f p q o : Nat) (x : Int32), p + f = n → 2 ≤ q → q ≤ 6 → ffr L f p q o = F → ∃ q', 2 < q' ∧ q' ≤ 7 ∧ ffr L (n - (dig L f p x).1) (dig L f p x).1 q' o = F ∧ ((dig L f p x).1 < n → dg (L (dig L f p x).1) = false) ∧ evF V n L (dig L f p x).1 = evF V n L p
  | 0, p, q, o, x, h1, h2, h3, h4 => by
    obtain ⟨a, b, c⟩ := ffr_z hF h4
    refine ⟨q, b, by omega, ?_, fun z => ?_, rfl⟩
    · show ffr L (n - p) p q o = F
      rw [show n - p = 0 by omega]; exact h4
    · have : p < n := z
      omega
  | f + 1, p, q, o, x, h1, h2, h3, h4 => by
    obtain ⟨s, ht, er⟩ := ffr_s hF h4
    unfold dig
    by_cases hd : dg (L p) = true
    · rw [if_pos hd]
      have hq6 : q < 6 := by
        rcases Nat.lt_or_ge q 6 with z | z
        · exact z
        · exfalso
          have hq : q = 6 := by omega
          have h48 : 48 ≤ L p ∧ L p ≤ 57 := by
            unfold dg at hd
            simp at hd
            omega
          unfold tr at ht
          rw [if_neg (by omega), if_neg (by omega), if_neg (show ¬ (q < 6 ∧ dg (L p) = true) from fun w => by have := w.1; omega), if_neg (show ¬ (2 < q ∧ (L p = 38 ∨ L p = 124)) by omega), if_neg (show ¬ (2 < q ∧ L p = 41 ∧ 0 < o) by omega)] at ht
          cases ht
      have ht2 : tr q o (L p) = some (q + 1, o) := by
        unfold tr
        rw [if_neg (by omega), if_neg (by omega), if_pos ⟨hq6, hd⟩]
      rw [ht2] at ht
      cases ht
      obtain ⟨q', a1, a2, a3, a4, a5⟩ := dig_b (V := V) hF f (p + 1) (q + 1) o (10 * x + nn (L p) - 48) (by omega) (by omega) (by omega) er
      refine ⟨q', a1, a2, a3, a4, ?_⟩
      rw [a5]
      have h48 : 48 ≤ L p ∧ L p ≤ 62 := by
        unfold dg at hd
        simp at hd
        omega
      exact est_id h48
    · rw [if_neg hd]
      have hq2 : 2 < q := by
        rcases Nat.lt_or_ge 2 q with z | z
        · exact z
        · exfalso
          have hq : q = 2 := by omega
          unfold tr at ht
          rw [if_neg (by omega), if_neg (by omega), if_neg (fun w => hd w.2), if_neg (by omega), if_neg (by omega)] at ht
          cases ht
      refine ⟨q, hq2, by omega, ?_, fun _ => by simpa using hd, rfl⟩
      show ffr L (n - p) p q o = F
      rw [show n - p = f + 1 by omega]; exact h4
theorem u_digits {t n : Nat} {L : Nat → Nat} {S : gx_S} (h : uQ t n L S) (ht : t < 4) (k : Int32 × gx_S → Option (Int32 × gx_S)) (x2 x3 c op : Int32) : ∀ f e num m, e + f = n → f < m → gx_loop (n_barsNow_232 k (nn t) x2 x3 c op S) m (nn e, num) = n_barsNow_290 k (nn t) x2 x3 (nn (dig L f e num).1) c op (dig L f e num).2 S := by
  have hn := h.1
  intro f
  induction f with
  | zero =>
    intro e num m h1 h2
    obtain ⟨m', rfl⟩ : ∃ m', m = m' + 1 := ⟨m - 1, by omega⟩
    rw [gx_loop_s]
    simp only [n_barsNow_232]
    simp (disch := omega) only [ck_n, nn_c, h.2.1, nn_le]
    rw [if_pos (by omega)]
    rfl
  | succ f ih =>
    intro e num m h1 h2
    obtain ⟨m', rfl⟩ : ∃ m', m = m' + 1 := ⟨m - 1, by omega⟩
    have he : e < n := by omega
    obtain ⟨e9, hL⟩ := h.2.2 e he
    rw [gx_loop_s]
    simp only [n_barsNow_232]
    rw [show (50 : Int32) = nn 50 from rfl, nn_mul, nn_add]
    simp (disch := omega) only [ck_n, nn_c, h.2.1, nn_le, e9, u_isDigit, cp_s, nn_s, ib_0]
    rw [if_neg (by omega)]
    unfold dig
    by_cases hd : dg (L e) = true
    · rw [if_neg (by simp [hd]), if_pos hd]
      exact ih (e + 1) _ m' (by omega) (by omega)
    · rw [if_pos (by simpa using hd), if_neg hd]
theorem u_barsNow {G D : gx_S} {a b : Nat} {t n : Nat} {L : Nat → Nat} {S : gx_S} (p0 : pU G D (-1) S) (hw : wD G D) (ha : a < nO G) (hb : b < nO G) (hab : a ≠ b) (h : uQ t n L S) (ht : t < 4) (hT : isT n L = true) : gt (n_barsNow (nn t) (nn a) (nn b) S) fun r => fk S r.2 ∧ r.1 = ib (eTh (evF (val G D a b) n L n)) := by
  have hn := h.1
  have hF := isT_ok hT
  obtain ⟨F, hFe⟩ : ∃ F, F = ffr L n 0 0 0 := ⟨_, rfl⟩
  rw [← hFe] at hF
  unfold n_barsNow
  refine gt_let ?_
  refine gt_cp (u_openGroup (d := 0) (s := e0) (by rw [gx_st_eq]; decide) (by omega) (fun i hi => absurd hi (by omega))) (fun T0 hT0 => ?_)
  obtain ⟨f0, j0⟩ := hT0
  have f0' : fk S T0 := fun q j b1 b2 b3 b4 b5 => by
    rw [f0 q j b1 b2 b3 b4 b5]
    by_cases z : q = 0
    · subst z; exact gx_st_j _ _ _ (by omega)
    · exact gx_st_q _ _ _ _ z
  have j0' : uE e0 T0 := ⟨j0.1, fun i hi => by
    have : i = 0 := by simp only [e0] at hi; omega
    subst this
    exact j0.2 0 (Nat.le_refl _)⟩
  refine gt_loop (fun r => ∃ i, r.1 = nn i ∧ i ≤ n ∧ fk S r.2 ∧ uE (evF (val G D a b) n L i) r.2 ∧ ∃ q, q ≤ 7 ∧ (evF (val G D a b) n L i).1 ≤ i ∧ ffr L (n - i) i q (evF (val G D a b) n L i).1 = F ∧ (q = 0 ∨ (2 < q ∧ (i < n → dg (L i) = false)))) (fun r => n - r.1.toNatClampNeg) ?_ 5000 _ ?_ ?_
  · rintro ⟨_, T⟩ k ⟨i, rfl, hi, f, e, q, hq, ho, er, hbd⟩ hk
    simp only at f e hk
    rw [nn_c (by omega)] at hk
    simp only [n_barsNow_12]
    have hQ := uQ_k h f
    have p := pU_k p0 f
    obtain ⟨e1, e2⟩ := id e
    obtain ⟨a1, a2, a3⟩ := e2 _ (Nat.le_refl _)
    rw [ck_n ht (by omega), nn_c (by omega), hQ.2.1]
    by_cases hin : n ≤ i
    · have : i = n := by omega
      subst this
      rw [if_pos (Int32.le_refl _), Nat.sub_self] at *
      obtain ⟨_, _, o0⟩ := ffr_z hF er
      rw [o0] at a1 a2
      rw [ck_0 (by omega) (by omega), z_c, a1, a2]
      unfold eTh n_barsNow_381
      rw [o0]
      simp only [ib_0]
      cases (evF (val G D a b) i L i).2.1 0 with
      | true => rw [if_neg (by decide)]; exact gt_some ⟨f, rfl⟩
      | false =>
        rw [if_pos rfl]
        cases (evF (val G D a b) i L i).2.2.1 0 with
        | true => rw [if_neg (by decide)]; exact gt_some ⟨f, rfl⟩
        | false => rw [if_pos rfl]; exact gt_some ⟨f, rfl⟩
    · obtain ⟨e9, hL⟩ := hQ.2.2 i (by omega)
      obtain ⟨m, hm⟩ : ∃ m, n - i = m + 1 := ⟨n - i - 1, by omega⟩
      rw [hm] at er
      obtain ⟨s, hts, er'⟩ := ffr_s hF er
      obtain ⟨t1, t2⟩ := tr_o hts
      have hsb := tr_b hq hts
      have ed : (evF (val G D a b) n L (i + 1)).1 = s.2 := by
        show (est (val G D a b) n L i (evF (val G D a b) n L i)).1 = s.2
        rw [est_d, t1]
      have ev1 : evF (val G D a b) n L (i + 1) = est (val G D a b) n L i (evF (val G D a b) n L i) := rfl
      rw [if_neg (by rw [nn_le (by omega) (by omega)]; omega)]
      rw [show (50 : Int32) = nn 50 from rfl, nn_mul, nn_s, nn_add, nn_add, ck_n (by omega) (by omega), nn_c (by omega), e9]
      have cne : ∀ d, d < 1000 → ¬ L i = d → ¬ nn (L i) = nn d := fun d hd h => by rw [nn_eq (by omega) (by omega)]; exact h
      -- the next letter
      have nx : ∀ U, fk S U → uE (evF (val G D a b) n L (i + 1)) U → (s.1 = 0 ∨ (2 < s.1 ∧ (i + 1 < n → dg (L (i + 1)) = false))) → gt (n_barsNow_360 k (nn t) (nn a) (nn b) (nn (i + 1)) U) fun r => fk S r.2 ∧ r.1 = ib (eTh (evF (val G D a b) n L n)) := fun U fU eU hs => by
        unfold n_barsNow_360
        refine hk _ ⟨i + 1, rfl, by omega, fU, eU, s.1, hsb.1, by rw [ed]; omega, ?_, hs⟩ ?_
        · rw [ed, show n - (i + 1) = m by omega]; exact er'
        · simp only
          rw [nn_c (by omega)]; omega
      rw [show (33 : Int32) = nn 33 from rfl, show (40 : Int32) = nn 40 from rfl, show (41 : Int32) = nn 41 from rfl, show (124 : Int32) = nn 124 from rfl, show (38 : Int32) = nn 38 from rfl]
      by_cases c33 : L i = 33
      · rw [if_pos (by rw [c33]), e1]
        simp (disch := omega) only [ck_n, nn_c, a3, ib_0]
        have hs0 : s.1 = 0 := by
          unfold tr at hts
          rw [c33] at hts
          by_cases q0 : q = 0
          · rw [if_pos q0, if_pos rfl] at hts
            cases hts; rfl
          · have hd : dg 33 = false := by decide
            rw [if_neg q0, if_neg (by omega), if_neg (fun w => by rw [hd] at w; exact absurd w.2 (by decide)), if_neg (by omega), if_neg (by omega)] at hts
            cases hts
        have ee : evF (val G D a b) n L (i + 1) = eNot (evF (val G D a b) n L i) := by
          rw [ev1]; unfold est; rw [if_pos c33]
        have main : ∀ x : Bool, x = !(evF (val G D a b) n L i).2.2.2 (evF (val G D a b) n L i).1 → gt (n_barsNow_72 k (nn t) (nn a) (nn b) (nn (i + 1)) (nn (evF (val G D a b) n L i).1) (ib x) T) fun r => fk S r.2 ∧ r.1 = ib (eTh (evF (val G D a b) n L n)) := fun x hx => by
          unfold n_barsNow_72
          rw [nar_ib]
          simp (disch := omega) only [ck_n, nn_c, let_s]
          refine nx _ (fk_t f (fun q j b1 b2 b3 b4 b5 => gx_st_q _ _ _ _ b5)) ?_ (Or.inl hs0)
          rw [ee]
          refine ⟨by rw [gx_st_q _ _ _ _ (by omega)]; exact e1, fun j hj => ?_⟩
          obtain ⟨c1, c2, c3⟩ := e2 j hj
          rw [gx_st_q _ _ _ _ (by omega), gx_st_q _ _ _ _ (by omega)]
          refine ⟨c1, c2, ?_⟩
          show _ = ib (ub _ _ _ j)
          by_cases z : j = (evF (val G D a b) n L i).1
          · rw [z, gx_st_eq, ub_e, hx]
          · rw [gx_st_j _ _ _ z, ub_n _ _ z]; exact c3
        cases hC : (evF (val G D a b) n L i).2.2.2 (evF (val G D a b) n L i).1 with
        | false => rw [if_pos rfl]; exact main true (by rw [hC]; rfl)
        | true => rw [if_neg (by decide)]; exact main false (by rw [hC]; rfl)
      · rw [if_neg (cne 33 (by omega) c33)]
        by_cases c40 : L i = 40
        · rw [if_pos (by rw [c40])]
          have hs0 : s.1 = 0 := by
            unfold tr at hts
            rw [c40] at hts
            by_cases q0 : q = 0
            · rw [if_pos q0, if_neg (by omega), if_pos rfl] at hts
              cases hts; rfl
            · have hd : dg 40 = false := by decide
              rw [if_neg q0, if_neg (by omega), if_neg (fun w => by rw [hd] at w; exact absurd w.2 (by decide)), if_neg (by omega), if_neg (by omega)] at hts
              cases hts
          have ee : evF (val G D a b) n L (i + 1) = eOpen (evF (val G D a b) n L i) := by
            rw [ev1]; unfold est; rw [if_neg c33, if_pos c40]
          refine gt_cp (u_openGroup (d := (evF (val G D a b) n L i).1 + 1) (s := evF (val G D a b) n L i) (by rw [e1, nn_s]) (by omega) (fun j hj => e2 j (by omega))) (fun U hU => ?_)
          exact nx U (fk_t f hU.1) (by rw [ee]; exact hU.2) (Or.inl hs0)
        · rw [if_neg (cne 40 (by omega) c40)]
          by_cases c41 : L i = 41
          · rw [if_pos (by rw [c41]), e1]
            have hd0 := t2 c41
            simp (disch := omega) only [ck_n, nn_c, a1, a2, ib_0]
            have hs7 : s.1 = 7 := by
              unfold tr at hts
              rw [c41] at hts
              have hd : dg 41 = false := by decide
              by_cases q0 : q = 0
              · rw [if_pos q0, if_neg (by omega), if_neg (by omega), if_neg (by unfold nam; omega)] at hts
                cases hts
              · by_cases q1 : q = 1
                · omega
                · rw [if_neg q0, if_neg q1, if_neg (fun w => by rw [hd] at w; exact absurd w.2 (by decide)), if_neg (by omega)] at hts
                  by_cases q3 : 2 < q ∧ 41 = 41 ∧ 0 < (evF (val G D a b) n L i).1
                  · rw [if_pos q3] at hts
                    cases hts; rfl
                  · rw [if_neg q3] at hts
                    cases hts
            have hs : s.1 = 0 ∨ (2 < s.1 ∧ (i + 1 < n → dg (L (i + 1)) = false)) := Or.inr ⟨by omega, fun hi1 => by
              obtain ⟨m', hm'⟩ : ∃ m', m = m' + 1 := ⟨m - 1, by omega⟩
              rw [hm'] at er'
              obtain ⟨s', ht', _⟩ := ffr_s hF er'
              cases hd : dg (L (i + 1)) with
              | false => rfl
              | true =>
                exfalso
                have h48 : 48 ≤ L (i + 1) ∧ L (i + 1) ≤ 57 := by
                  unfold dg at hd
                  simp at hd
                  omega
                unfold tr at ht'
                rw [if_neg (by omega), if_neg (by omega), if_neg (show ¬ (s.1 < 6 ∧ dg (L (i + 1)) = true) from fun w => by have := w.1; omega), if_neg (show ¬ (2 < s.1 ∧ (L (i + 1) = 38 ∨ L (i + 1) = 124)) by omega), if_neg (show ¬ (2 < s.1 ∧ L (i + 1) = 41 ∧ 0 < s.2) by omega)] at ht'
                cases ht'⟩
            have ee : evF (val G D a b) n L (i + 1) = eShut (evF (val G D a b) n L i) := by
              rw [ev1]; unfold est; rw [if_neg c33, if_neg c40, if_pos c41]
            have main : ∀ x : Bool, x = eTh (evF (val G D a b) n L i) → gt (n_barsNow_126 k (nn t) (nn a) (nn b) (nn (i + 1)) (ib x) T) fun r => fk S r.2 ∧ r.1 = ib (eTh (evF (val G D a b) n L n)) := fun x hx => by
              unfold n_barsNow_126
              rw [e1, nn_p hd0]
              refine gt_let ?_
              have e' : uE ((evF (val G D a b) n L i).1 - 1, (evF (val G D a b) n L i).2) (gx_st T 0 40 (nn ((evF (val G D a b) n L i).1 - 1))) := ⟨gx_st_eq _ _ _ _, fun j hj => by
                rw [gx_st_q _ _ _ _ (by omega), gx_st_q _ _ _ _ (by omega), gx_st_q _ _ _ _ (by omega)]
                exact e2 j (by simp only at hj; omega)⟩
              refine gt_cp (u_factor e' (by simp only; omega) x) (fun U hU => ?_)
              refine nx U (fk_t f (fun q j b1 b2 b3 b4 b5 => ?_)) ?_ hs
              · rw [hU.1 q j b1 b2 b3 b4 b5]
                by_cases z : q = 0
                · subst z; exact gx_st_j _ _ _ (by omega)
                · exact gx_st_q _ _ _ _ z
              · rw [ee]
                unfold eShut
                rw [← hx]
                exact hU.2
            unfold n_barsNow_121
            unfold eTh at main
            cases hA : (evF (val G D a b) n L i).2.1 (evF (val G D a b) n L i).1 with
            | true => rw [if_neg (by decide)]; exact main true (by rw [hA]; rfl)
            | false =>
              rw [if_pos rfl]
              cases hB : (evF (val G D a b) n L i).2.2.1 (evF (val G D a b) n L i).1 with
              | true => rw [if_neg (by decide)]; exact main true (by rw [hA, hB]; rfl)
              | false => rw [if_pos rfl]; exact main false (by rw [hA, hB]; rfl)
          · rw [if_neg (cne 41 (by omega) c41)]
            by_cases c124 : L i = 124
            · rw [if_pos (by rw [c124]), e1]
              simp (disch := omega) only [ck_n, nn_c, a1, a2, ib_0]
              have hs0 : s.1 = 0 := by
                unfold tr at hts
                rw [c124] at hts
                have hd : dg 124 = false := by decide
                by_cases q0 : q = 0
                · rw [if_pos q0, if_neg (by omega), if_neg (by omega), if_neg (by unfold nam; omega)] at hts
                  cases hts
                · by_cases q1 : q = 1
                  · omega
                  · rw [if_neg q0, if_neg q1, if_neg (fun w => by rw [hd] at w; exact absurd w.2 (by decide))] at hts
                    by_cases q3 : 2 < q ∧ (124 = 38 ∨ 124 = 124)
                    · rw [if_pos q3] at hts
                      cases hts; rfl
                    · rw [if_neg q3, if_neg (by omega)] at hts
                      cases hts
              have ee : evF (val G D a b) n L (i + 1) = eOr (evF (val G D a b) n L i) := by
                rw [ev1]; unfold est; rw [if_neg c33, if_neg c40, if_neg c41, if_pos c124]
              have main : ∀ x : Bool, x = eTh (evF (val G D a b) n L i) → gt (n_barsNow_191 k (nn t) (nn a) (nn b) (nn (i + 1)) (nn (evF (val G D a b) n L i).1) (ib x) T) fun r => fk S r.2 ∧ r.1 = ib (eTh (evF (val G D a b) n L n)) := fun x hx => by
                unfold n_barsNow_191
                rw [nar_ib, nar_b (Or.inr rfl)]
                simp (disch := omega) only [ck_n, nn_c, let_s, gx_st_q, e1]
                refine nx _ (fk_t f (fun q j b1 b2 b3 b4 b5 => by rw [gx_st_q _ _ _ _ b4, gx_st_q _ _ _ _ b3])) ?_ (Or.inl hs0)
                rw [ee]
                refine ⟨by rw [gx_st_q _ _ _ _ (by omega), gx_st_q _ _ _ _ (by omega)]; exact e1, fun j hj => ?_⟩
                obtain ⟨c1, c2, c3⟩ := e2 j hj
                refine ⟨?_, ?_, ?_⟩
                · show _ = ib (ub _ _ _ j)
                  rw [gx_st_q _ _ _ _ (by omega)]
                  by_cases z : j = (evF (val G D a b) n L i).1
                  · rw [z, gx_st_eq, ub_e, hx]
                  · rw [gx_st_j _ _ _ z, ub_n _ _ z]; exact c1
                · show _ = ib (ub _ _ _ j)
                  by_cases z : j = (evF (val G D a b) n L i).1
                  · rw [z, gx_st_eq, ub_e]; rfl
                  · rw [gx_st_j _ _ _ z, ub_n _ _ z, gx_st_q _ _ _ _ (by omega)]; exact c2
                · rw [gx_st_q _ _ _ _ (by omega), gx_st_q _ _ _ _ (by omega)]; exact c3
              unfold n_barsNow_186
              unfold eTh at main
              cases hA : (evF (val G D a b) n L i).2.1 (evF (val G D a b) n L i).1 with
              | true => rw [if_neg (by decide)]; exact main true (by rw [hA]; rfl)
              | false =>
                rw [if_pos rfl]
                cases hB : (evF (val G D a b) n L i).2.2.1 (evF (val G D a b) n L i).1 with
                | true => rw [if_neg (by decide)]; exact main true (by rw [hA, hB]; rfl)
                | false => rw [if_pos rfl]; exact main false (by rw [hA, hB]; rfl)
            · rw [if_neg (cne 124 (by omega) c124)]
              by_cases c38 : L i = 38
              · rw [if_pos (by rw [c38])]
                have hs0 : s.1 = 0 := by
                  unfold tr at hts
                  rw [c38] at hts
                  have hd : dg 38 = false := by decide
                  by_cases q0 : q = 0
                  · rw [if_pos q0, if_neg (by omega), if_neg (by omega), if_neg (by unfold nam; omega)] at hts
                    cases hts
                  · by_cases q1 : q = 1
                    · omega
                    · rw [if_neg q0, if_neg q1, if_neg (fun w => by rw [hd] at w; exact absurd w.2 (by decide))] at hts
                      by_cases q3 : 2 < q ∧ (38 = 38 ∨ 38 = 124)
                      · rw [if_pos q3] at hts
                        cases hts; rfl
                      · rw [if_neg q3, if_neg (by omega)] at hts
                        cases hts
                have ee : evF (val G D a b) n L (i + 1) = evF (val G D a b) n L i := by
                  rw [ev1]; unfold est; rw [if_neg c33, if_neg c40, if_neg c41, if_neg c124, if_neg (by unfold nam; omega)]
                exact nx T f (by rw [ee]; exact e) (Or.inl hs0)
              · rw [if_neg (cne 38 (by omega) c38)]
                -- a comparison
                have hq0 : q = 0 ∧ nam (L i) := by
                  unfold tr at hts
                  rcases hbd with q0 | ⟨q2, hdg⟩
                  · rw [if_pos q0, if_neg c33, if_neg c40] at hts
                    by_cases hnm : nam (L i)
                    · exact ⟨q0, hnm⟩
                    · rw [if_neg hnm] at hts
                      cases hts
                  · exfalso
                    have hd := hdg (by omega)
                    rw [if_neg (by omega), if_neg (by omega), if_neg (fun w => by rw [hd] at w; exact absurd w.2 (by decide)), if_neg (by omega), if_neg (by omega)] at hts
                    cases hts
                obtain ⟨q0, hnm⟩ := hq0
                have hs1 : s = (1, (evF (val G D a b) n L i).1) := by
                  unfold tr at hts
                  rw [if_pos q0, if_neg c33, if_neg c40, if_pos hnm] at hts
                  cases hts; rfl
                rw [hs1] at er'
                have hm1 : ∃ m', m = m' + 1 := by
                  rcases m with _ | m'
                  · obtain ⟨_, z, _⟩ := ffr_z hF er'
                    omega
                  · exact ⟨m', rfl⟩
                obtain ⟨m', hm'⟩ := hm1
                rw [hm'] at er'
                obtain ⟨s2, hts2, er2⟩ := ffr_s hF er'
                have hs2 : sgn (L (i + 1)) ∧ s2 = (2, (evF (val G D a b) n L i).1) := by
                  unfold tr at hts2
                  rw [if_neg (by omega), if_pos rfl] at hts2
                  by_cases hsg : sgn (L (i + 1))
                  · rw [if_pos hsg] at hts2
                    cases hts2
                    exact ⟨hsg, rfl⟩
                  · rw [if_neg hsg] at hts2
                    cases hts2
                obtain ⟨hsg, hs2⟩ := hs2
                rw [hs2] at er2
                have hsg6 : 48 ≤ L (i + 1) ∧ L (i + 1) ≤ 62 := by
                  rcases hsg with z | z | z <;> omega
                obtain ⟨e9', hL'⟩ := hQ.2.2 (i + 1) (by omega)
                rw [ck_n (by omega) (by omega), nn_c (by omega), e9', nn_s, show i + 1 + 1 = i + 2 from rfl]
                rw [show gx_loop (n_barsNow_232 k (nn t) (nn a) (nn b) (nn (L i)) (nn (L (i + 1))) T) 5000 (nn (i + 2), 0) = _ from u_digits hQ ht k _ _ _ _ (n - (i + 2)) (i + 2) 0 5000 (by omega) (by omega)]
                obtain ⟨q', a4, a5, a6, a7, a8⟩ := dig_b (V := val G D a b) hF (n - (i + 2)) (i + 2) 2 (evF (val G D a b) n L i).1 0 (by omega) (by omega) (by omega) (by rw [show n - (i + 2) = m' by omega]; exact er2)
                have hdl := dig_le (L := L) (n - (i + 2)) (i + 2) 0
                have ee1 : evF (val G D a b) n L (i + 1) = eFac (cmpB n L (val G D a b (L i)) i) (evF (val G D a b) n L i) := by
                  rw [ev1]; unfold est; rw [if_neg c33, if_neg c40, if_neg c41, if_neg c124, if_pos hnm]
                have ee2 : evF (val G D a b) n L (i + 2) = evF (val G D a b) n L (i + 1) := est_id hsg6
                obtain ⟨E, hE⟩ : ∃ E, E = (dig L (n - (i + 2)) (i + 2) 0).1 := ⟨_, rfl⟩
                rw [← hE] at a6 a7 a8 hdl ⊢
                have eeE : evF (val G D a b) n L E = eFac (cmpB n L (val G D a b (L i)) i) (evF (val G D a b) n L i) := by rw [a8, ee2, ee1]
                unfold n_barsNow_290
                refine gt_cs (u_valueOf p hw ha hb hab (c := L i) hnm) (fun v U hU => ?_)
                obtain ⟨u1, u2⟩ := hU
                simp only at u1 u2
                rw [u1]
                have fU : fk S U := fk_t f (fun q j b1 b2 b3 b4 b5 => u2 q j b2)
                have eU : uE (evF (val G D a b) n L i) U := ⟨by rw [u2 _ _ (by omega)]; exact e1, fun j hj => by rw [u2 _ _ (by omega), u2 _ _ (by omega), u2 _ _ (by omega)]; exact e2 j hj⟩
                have fin : ∀ x : Bool, x = cmpB n L (val G D a b (L i)) i → gt (n_barsNow_357 k (nn t) (nn a) (nn b) (nn E) (ib x) U) fun r => fk S r.2 ∧ r.1 = ib (eTh (evF (val G D a b) n L n)) := fun x hx => by
                  unfold n_barsNow_357
                  refine gt_cp (u_factor eU (by omega) x) (fun W hW => ?_)
                  unfold n_barsNow_360
                  refine hk _ ⟨E, rfl, by omega, fk_t fU hW.1, by rw [eeE, ← hx]; exact hW.2, q', a5, ?_, ?_, Or.inr ⟨a4, a7⟩⟩ ?_
                  · rw [eeE]
                    show (evF (val G D a b) n L i).1 ≤ E
                    omega
                  · rw [eeE]; exact a6
                  · simp only
                    rw [nn_c (by omega)]; omega
                have hop : cmpB n L (val G D a b (L i)) i = cmpV (L (i + 1)) (val G D a b (L i)) (dig L (n - (i + 2)) (i + 2) 0).2 := by
                  unfold cmpB
                  rw [if_pos (by omega)]
                rw [hop] at fin
                generalize (dig L (n - (i + 2)) (i + 2) 0).2 = num at fin ⊢
                generalize val G D a b (L i) = w at fin ⊢
                unfold cmpV at fin
                rw [show (60 : Int32) = nn 60 from rfl, show (62 : Int32) = nn 62 from rfl]
                rcases hsg with z | z | z
                · rw [z] at fin ⊢
                  rw [if_pos rfl]
                  rw [if_pos rfl] at fin
                  by_cases y : num ≤ w
                  · rw [if_pos y]
                    exact fin false (by symm; simp; lia)
                  · rw [if_neg y]
                    exact fin true (by symm; simp; lia)
                · rw [z] at fin ⊢
                  rw [if_neg (by decide), if_neg (by decide)]
                  rw [if_neg (by decide), if_pos rfl] at fin
                  by_cases y : w = num
                  · rw [if_pos y]
                    exact fin true (by symm; simp [y])
                  · rw [if_neg y]
                    exact fin false (by symm; simp [y])
                · rw [z] at fin ⊢
                  rw [if_neg (by decide), if_pos rfl]
                  rw [if_neg (by decide), if_neg (by decide)] at fin
                  by_cases y : w ≤ num
                  · rw [if_pos y]
                    exact fin false (by symm; simp; lia)
                  · rw [if_neg y]
                    exact fin true (by symm; simp; lia)
  · exact ⟨0, rfl, by omega, f0', j0', 0, by omega, Nat.le_refl _, hFe.symm, Or.inl rfl⟩
  · simp only
    rw [z_c]; omega

/-! b28: both sides are pictures of the same -/
def zG (G : gx_S) : Prop := ∀ j, nO G ≤ j → G 2 j = 0
def zD (G D : gx_S) : Prop := ∀ j, j < 6 → nP G ≤ j → D 1 j = 0 ∧ D 2 j = 0
abbrev rA : Type := gx_S × gx_S × Nat × (Nat → Nat) × Nat × (Nat → Nat) × (Nat → Nat → Nat) × Nat
/-- street, standing, the page's length and letters, tests: how many, their lengths and letters, how often wrong was done -/
def qG (A : rA) : gx_S := A.1
def qD (A : rA) : gx_S := A.2.1
def qn (A : rA) : Nat := A.2.2.1
def qL (A : rA) : Nat → Nat := A.2.2.2.1
def qc (A : rA) : Nat := A.2.2.2.2.1
def qtn (A : rA) : Nat → Nat := A.2.2.2.2.2.1
def qtL (A : rA) : Nat → Nat → Nat := A.2.2.2.2.2.2.1
def qw (A : rA) : Nat := A.2.2.2.2.2.2.2
def RA (A : rA) : Prop := wG (qG A) ∧ zG (qG A) ∧ wD (qG A) (qD A) ∧ zD (qG A) (qD A) ∧ qc A ≤ 4 ∧ qw A ≤ 6 ∧ ∀ t, t < qc A → isT (qtn A t) (qtL A t) = true
def RS (A : rA) (S : gx_S) : Prop := vG (qG A) S ∧ vD 0 (qD A) S ∧ vT 0 (qn A) (qL A) S ∧ S 0 10 = nn (qc A) ∧ S 0 11 = nn (qw A) ∧ ∀ t, t < qc A → vT (1 + t) (qtn A t) (qtL A t) S
def RT (A : rA) (T : gx_S) : Prop := uG (qG A) T ∧ uD (qD A) T ∧ T 0 23 = -1 ∧ uT (qn A) (qL A) T ∧ T 0 11 = nn (qc A) ∧ T 0 16 = nn (qw A) ∧ ∀ t, t < qc A → uQ t (qtn A t) (qtL A t) T
/-- what is kept -/
def RK (G S T : gx_S) : Prop := (S 0 12 = 0 ∧ T 0 17 = 0) ∨ (S 0 12 = 1 ∧ T 0 17 = 1 ∧ ∃ (K : gx_S) (ko ks : Nat), S 0 13 = nn ko ∧ T 0 18 = nn ko ∧ S 0 14 = nn ks ∧ T 0 19 = nn ks ∧ ko ≤ nO G ∧ ks ≤ nP G ∧ (∀ j, j < 6 → S 30 j = K 1 j ∧ S 31 j = K 2 j ∧ T 12 j = K 1 j ∧ T 13 j = K 2 j ∧ T 14 j = K 3 j) ∧ (∀ j, j < 6 → (j < ko ∨ nO G ≤ j) → S 32 j = K 3 j) ∧ (∀ j, j < 6 → ko ≤ j → K 3 j = 0) ∧ (∀ j, j < 6 → K 3 j = 0 ∨ K 3 j = 1 ∧ G 2 j = 4) ∧ (ks = nP G → wD G K ∧ zD G K))
def RR (S T : gx_S) : Prop := ∃ A, RA A ∧ RS A S ∧ RT A T ∧ RK (qG A) S T
/-- the class's scratch alone has changed; the reference's -/
def fP (S T : gx_S) : Prop := ∀ q j, (q < 25 ∨ (28 < q ∧ q < 33) ∨ (65 < q ∧ q < 76)) → T q j = S q j
def fQ (S T : gx_S) : Prop := ∀ q j, q < 15 → (q ≠ 0 ∨ j < 24) → T q j = S q j
theorem fP_r (S : gx_S) : fP S S := fun _ _ _ => rfl
theorem fQ_r (S : gx_S) : fQ S S := fun _ _ _ _ => rfl
theorem fP_t {S T U : gx_S} (h : fP S T) (h' : fP T U) : fP S U := fun q j a => (h' q j a).trans (h q j a)
theorem fQ_t {S T U : gx_S} (h : fQ S T) (h' : fQ T U) : fQ S U := fun q j a b => (h' q j a b).trans (h q j a b)
theorem fX_P {S T : gx_S} (h : fX S T) : fP S T := fun q j a => h q j (by omega)
theorem f15_Q {S T : gx_S} (h : f15 S T) : fQ S T := fun q j a _ => h q j (by omega)
theorem RS_P {A : rA} {S S' : gx_S} (hG : wG (qG A)) (hc : qc A ≤ 4) (h : RS A S) (f : fP S S') : RS A S' := by
  obtain ⟨h1, h2, h3, h4, h5, h6⟩ := h
  refine ⟨vG_f h1 (wG_S hG).2 (fun q j hq => f q j (by omega)), vD_f h2 (fun q j a b => f q j (by omega)), ⟨h3.1, ?_, fun j hj => ?_⟩, ?_, ?_, fun t ht => ⟨(h6 t ht).1, ?_, fun j hj => ?_⟩⟩
  · rw [f _ _ (by omega)]; exact h3.2.1
  · rw [f _ _ (by omega)]; exact h3.2.2 j hj
  · rw [f _ _ (by omega)]; exact h4
  · rw [f _ _ (by omega)]; exact h5
  · rw [f _ _ (by omega)]; exact (h6 t ht).2.1
  · rw [f _ _ (by omega)]; exact (h6 t ht).2.2 j hj
theorem RT_Q {A : rA} {T T' : gx_S} (h : RT A T) (f : fQ T T') : RT A T' := by
  obtain ⟨⟨⟨a1, a2, a3⟩, b, c, d⟩, h2, h3, h4, h5, h6, h7⟩ := h
  refine ⟨⟨⟨?_, ?_, ?_⟩, fun o ho => ?_, fun k hk => ?_, fun s i hs hi => ?_⟩, fun j hj => ?_, ?_, ⟨h4.1, ?_, fun j hj => ?_⟩, ?_, ?_, fun t ht => ⟨(h7 t ht).1, ?_, fun j hj => ?_⟩⟩
  · rw [f _ _ (by omega) (by omega)]; exact a1
  · rw [f _ _ (by omega) (by omega)]; exact a2
  · rw [f _ _ (by omega) (by omega)]; exact a3
  · rw [f _ _ (by omega) (by omega), f _ _ (by omega) (by omega)]; exact b o ho
  · rw [f _ _ (by omega) (by omega), f _ _ (by omega) (by omega)]; exact c k hk
  · rw [f _ _ (by omega) (by omega)]; exact d s i hs hi
  · rw [f _ _ (by omega) (by omega), f _ _ (by omega) (by omega), f _ _ (by omega) (by omega)]; exact h2 j hj
  · rw [f _ _ (by omega) (by omega)]; exact h3
  · rw [f _ _ (by omega) (by omega)]; exact h4.2.1
  · rw [f _ _ (by omega) (by omega)]; exact h4.2.2 j hj
  · rw [f _ _ (by omega) (by omega)]; exact h5
  · rw [f _ _ (by omega) (by omega)]; exact h6
  · rw [f _ _ (by omega) (by omega)]; exact (h7 t ht).2.1
  · rw [f _ _ (by omega) (by omega)]; exact (h7 t ht).2.2 j hj
theorem RK_f {G S T S' T' : gx_S} (h : RK G S T) (f : ∀ q j, (q = 0 ∧ 12 ≤ j ∧ j ≤ 14) ∨ (29 < q ∧ q < 33) → S' q j = S q j) (g : ∀ q j, (q = 0 ∧ 17 ≤ j ∧ j ≤ 19) ∨ (11 < q ∧ q < 15) → T' q j = T q j) : RK G S' T' := by
  unfold RK
  rw [f 0 12 (by omega), f 0 13 (by omega), f 0 14 (by omega), g 0 17 (by omega), g 0 18 (by omega), g 0 19 (by omega)]
  rcases h with h | ⟨h1, h2, K, ko, ks, h3, h4, h5, h6, h7, h8, h9, h10, h11⟩
  · exact Or.inl h
  · refine Or.inr ⟨h1, h2, K, ko, ks, h3, h4, h5, h6, h7, h8, fun j hj => ?_, fun j hj hh => ?_, h11⟩
    · rw [f 30 j (by omega), f 31 j (by omega), g 12 j (by omega), g 13 j (by omega), g 14 j (by omega)]; exact h9 j hj
    · rw [f 32 j (by omega)]; exact h10 j hj hh
theorem RR_f {A : rA} {S T S' T' : gx_S} (hA : RA A) (hS : RS A S) (hT : RT A T) (hK : RK (qG A) S T) (f : fP S S') (g : fQ T T') : RR S' T' := ⟨A, hA, RS_P hA.1 hA.2.2.2.2.1 hS f, RT_Q hT g, RK_f hK (fun q j h => f q j (by omega)) (fun q j h => g q j (by omega) (by omega))⟩
theorem pX_R {A : rA} {S : gx_S} (hA : RA A) (hS : RS A S) : pX 0 (qG A) (qD A) S := ⟨hA.1, wD_0 hA.2.2.1, hS.1, hS.2.1⟩
theorem pU_R {A : rA} {T : gx_S} (hA : RA A) (hT : RT A T) : pU (qG A) (qD A) (-1) T := ⟨hA.1, wD_0 hA.2.2.1, hT.1, hT.2.1, hT.2.2.1⟩
/-- fM with the standing told is fQ where the standing is the same -/
theorem fM_Q {D S T : gx_S} (h : fM S T) (hS : uD D S) (hT : uD D T) (h6 : ∀ q j, (q = 3 ∨ q = 4 ∨ q = 7) → 6 ≤ j → T q j = S q j) : fQ S T := fun q j a b => by
  by_cases z : q = 3 ∨ q = 4 ∨ q = 7
  · rcases Nat.lt_or_ge j 6 with y | y
    · obtain ⟨a1, a2, a3⟩ := hS j y
      obtain ⟨b1, b2, b3⟩ := hT j y
      rcases z with rfl | rfl | rfl
      · rw [a3, b3]
      · rw [a2, b2]
      · rw [a1, b1]
    · exact h6 q j z y
  · exact h q j (by omega) (by omega) (by omega) (by omega) (by omega)
/-- the reference's standing may have changed to D' -/
theorem RT_M {A : rA} {T T' : gx_S} {D' : gx_S} (h : RT A T) (f : fM T T') (hd : uD D' T') : RT (qG A, D', A.2.2) T' := by
  obtain ⟨⟨⟨a1, a2, a3⟩, b, c, d⟩, h2, h3, h4, h5, h6, h7⟩ := h
  refine ⟨⟨⟨?_, ?_, ?_⟩, fun o ho => ?_, fun k hk => ?_, fun s i hs hi => ?_⟩, hd, ?_, ⟨h4.1, ?_, fun j hj => ?_⟩, ?_, ?_, fun t ht => ⟨(h7 t ht).1, ?_, fun j hj => ?_⟩⟩
  · rw [f _ _ (by omega) (by omega) (by omega) (by omega) (by omega)]; exact a1
  · rw [f _ _ (by omega) (by omega) (by omega) (by omega) (by omega)]; exact a2
  · rw [f _ _ (by omega) (by omega) (by omega) (by omega) (by omega)]; exact a3
  · rw [f _ _ (by omega) (by omega) (by omega) (by omega) (by omega), f _ _ (by omega) (by omega) (by omega) (by omega) (by omega)]; exact b o ho
  · rw [f _ _ (by omega) (by omega) (by omega) (by omega) (by omega), f _ _ (by omega) (by omega) (by omega) (by omega) (by omega)]; exact c k hk
  · rw [f _ _ (by omega) (by omega) (by omega) (by omega) (by omega)]; exact d s i hs hi
  · rw [f _ _ (by omega) (by omega) (by omega) (by omega) (by omega)]; exact h3
  · rw [f _ _ (by omega) (by omega) (by omega) (by omega) (by omega)]; exact h4.2.1
  · rw [f _ _ (by omega) (by omega) (by omega) (by omega) (by omega)]; exact h4.2.2 j hj
  · rw [f _ _ (by omega) (by omega) (by omega) (by omega) (by omega)]; exact h5
  · rw [f _ _ (by omega) (by omega) (by omega) (by omega) (by omega)]; exact h6
  · rw [f _ _ (by omega) (by omega) (by omega) (by omega) (by omega)]; exact (h7 t ht).2.1
  · rw [f _ _ (by omega) (by omega) (by omega) (by omega) (by omega)]; exact (h7 t ht).2.2 j hj
/-- the class's standing may have changed to D' -/
theorem RS_D {A : rA} {S S' : gx_S} {D' : gx_S} (hG : wG (qG A)) (hc : qc A ≤ 4) (h : RS A S) (f : ∀ q j, (q < 22 ∨ (28 < q ∧ q < 33) ∨ (65 < q ∧ q < 76)) → S' q j = S q j) (hd : vD 0 D' S') : RS (qG A, D', A.2.2) S' := by
  obtain ⟨h1, h2, h3, h4, h5, h6⟩ := h
  refine ⟨vG_f h1 (wG_S hG).2 (fun q j hq => f q j (by omega)), hd, ⟨h3.1, ?_, fun j hj => ?_⟩, ?_, ?_, fun t ht => ⟨(h6 t ht).1, ?_, fun j hj => ?_⟩⟩
  · rw [f _ _ (by omega)]; exact h3.2.1
  · rw [f _ _ (by omega)]; exact h3.2.2 j hj
  · rw [f _ _ (by omega)]; exact h4
  · rw [f _ _ (by omega)]; exact h5
  · have : qc (qG A, D', A.2.2) = qc A := rfl
    rw [this] at ht
    rw [f _ _ (by omega)]; exact (h6 t ht).2.1
  · have : qc (qG A, D', A.2.2) = qc A := rfl
    rw [this] at ht
    rw [f _ _ (by omega)]; exact (h6 t ht).2.2 j hj
/-- both standings are D' now -/
theorem RR_D {A : rA} {S T S' T' D' : gx_S} (hA : RA A) (hS : RS A S) (hT : RT A T) (hK : RK (qG A) S T) (hw : wD (qG A) D') (hz : zD (qG A) D') (f : ∀ q j, (q < 22 ∨ (28 < q ∧ q < 33) ∨ (65 < q ∧ q < 76)) → S' q j = S q j) (hd : vD 0 D' S') (g : fM T T') (hu : uD D' T') : RR S' T' :=
  ⟨(qG A, D', A.2.2), ⟨hA.1, hA.2.1, hw, hz, hA.2.2.2.2⟩, RS_D hA.1 hA.2.2.2.2.1 hS f hd, RT_M hT g hu, RK_f hK (fun q j h => f q j (by omega)) (fun q j h => g q j (by omega) (by omega) (by omega) (by omega) (by omega))⟩
/-- the class's scratch, the reference's with its standing as it was -/
theorem RR_M {A : rA} {S T S' T' : gx_S} (hA : RA A) (hS : RS A S) (hT : RT A T) (hK : RK (qG A) S T) (f : fP S S') (g : fM T T') (hu : uD (qD A) T') : RR S' T' :=
  RR_D hA hS hT hK hA.2.2.1 hA.2.2.2.1 (fun q j h => f q j (by omega)) (vD_f hS.2.1 (fun q j a b => f q j (by omega))) g hu
/-! what calls are refused by -/
theorem chk {n : Nat} (hn : n < 1000) (x : Int32) (S T : gx_S) : (∃ o, o < n ∧ x = nn o ∧ m_ShopsAsOne_isNot x 0 (nn n - 1) S = some 0 ∧ n_within x 0 (nn n - 1) T = some 1) ∨ (m_ShopsAsOne_isNot x 0 (nn n - 1) S = some 1 ∧ n_within x 0 (nn n - 1) T = some 0) := by
  rw [u_within]
  unfold m_ShopsAsOne_isNot m_ShopsAsOne_isNot_10
  by_cases h0 : x < 0
  · rw [if_pos h0, if_pos h0]; exact Or.inr ⟨rfl, rfl⟩
  · rw [if_neg h0, if_neg h0]
    have e := nn_of (x := x) (by lia)
    have hb := Int32.toNatClampNeg_lt x
    generalize x.toNatClampNeg = o at e hb
    subst e
    rcases Nat.eq_zero_or_pos n with z | z
    · subst z
      have h1 : ¬ nn o ≤ nn 0 - 1 := by
        rw [Int32.le_iff_toInt_le, nn_i (by omega), show (nn 0 - 1).toInt = -1 from by decide]
        omega
      rw [if_neg h1, if_pos (by lia)]; exact Or.inr ⟨rfl, rfl⟩
    · rw [nn_p z]
      by_cases h1 : o ≤ n - 1
      · have h1' : nn o ≤ nn (n - 1) := by rw [nn_le (by omega) (by omega)]; exact h1
        rw [if_pos h1', if_neg (by lia)]
        exact Or.inl ⟨o, by omega, rfl, rfl, rfl⟩
      · have h1' : ¬ nn o ≤ nn (n - 1) := by rw [nn_le (by omega) (by omega)]; exact h1
        rw [if_neg h1', if_pos (by lia)]; exact Or.inr ⟨rfl, rfl⟩
theorem i10 : ¬ (1 : Int32) = 0 := by decide
theorem chkR (x a b : Int32) (S T : gx_S) : (bw x a b ∧ m_ShopsAsOne_isNot x a b S = some 0 ∧ n_within x a b T = some 1) ∨ (m_ShopsAsOne_isNot x a b S = some 1 ∧ n_within x a b T = some 0) := by
  rw [u_within]
  unfold m_ShopsAsOne_isNot m_ShopsAsOne_isNot_10
  by_cases h0 : x < a
  · rw [if_pos h0, if_pos h0]; exact Or.inr ⟨rfl, rfl⟩
  · rw [if_neg h0, if_neg h0]
    by_cases h1 : x ≤ b
    · rw [if_pos h1, if_neg (by lia)]
      exact Or.inl ⟨⟨by lia, h1⟩, rfl, rfl⟩
    · rw [if_neg h1, if_pos (by lia)]; exact Or.inr ⟨rfl, rfl⟩
theorem chkO {n : Nat} (hn : n < 1000) {S T : gx_S} (hS : S 1 0 = nn n) (hT : T 0 0 = nn n) (x : Int32) : (∃ o, o < n ∧ x = nn o ∧ m_ShopsAsOne_isNoOwner x S = some 0 ∧ n_isOwner x T = some 1) ∨ (m_ShopsAsOne_isNoOwner x S = some 1 ∧ n_isOwner x T = some 0) := by
  unfold m_ShopsAsOne_isNoOwner n_isOwner
  rw [hS, hT]
  rcases chk hn x S T with ⟨o, h1, h2, h3, h4⟩ | ⟨h3, h4⟩
  · rw [h3, h4]; exact Or.inl ⟨o, h1, h2, bz_0, bz_1⟩
  · rw [h3, h4]; exact Or.inr ⟨bz_1, bz_0⟩
theorem chkP {n : Nat} (hn : n < 1000) {S T : gx_S} (hS : S 1 1 = nn n) (hT : T 0 4 = nn n) (x : Int32) : (∃ o, o < n ∧ x = nn o ∧ m_ShopsAsOne_isNoShop x S = some 0 ∧ n_isShop x T = some 1) ∨ (m_ShopsAsOne_isNoShop x S = some 1 ∧ n_isShop x T = some 0) := by
  unfold m_ShopsAsOne_isNoShop n_isShop
  rw [hS, hT]
  rcases chk hn x S T with ⟨o, h1, h2, h3, h4⟩ | ⟨h3, h4⟩
  · rw [h3, h4]; exact Or.inl ⟨o, h1, h2, bz_0, bz_1⟩
  · rw [h3, h4]; exact Or.inr ⟨bz_1, bz_0⟩
theorem chkS {n : Nat} (hn : n < 1000) {S T : gx_S} (hS : S 1 2 = nn n) (hT : T 0 9 = nn n) (x : Int32) : (∃ o, o < n ∧ x = nn o ∧ m_ShopsAsOne_isNoSort x S = some 0 ∧ n_isSort x T = some 1) ∨ (m_ShopsAsOne_isNoSort x S = some 1 ∧ n_isSort x T = some 0) := by
  unfold m_ShopsAsOne_isNoSort n_isSort
  rw [hS, hT]
  rcases chk hn x S T with ⟨o, h1, h2, h3, h4⟩ | ⟨h3, h4⟩
  · rw [h3, h4]; exact Or.inl ⟨o, h1, h2, bz_0, bz_1⟩
  · rw [h3, h4]; exact Or.inr ⟨bz_1, bz_0⟩
theorem chkT {n : Nat} (hn : n < 1000) {S T : gx_S} (hS : S 0 10 = nn n) (hT : T 0 11 = nn n) (x : Int32) : (∃ o, o < n ∧ x = nn o ∧ m_ShopsAsOne_isNoTest x S = some 0 ∧ n_isTest x T = some 1) ∨ (m_ShopsAsOne_isNoTest x S = some 1 ∧ n_isTest x T = some 0) := by
  unfold m_ShopsAsOne_isNoTest n_isTest
  rw [hS, hT]
  rcases chk hn x S T with ⟨o, h1, h2, h3, h4⟩ | ⟨h3, h4⟩
  · rw [h3, h4]; exact Or.inl ⟨o, h1, h2, bz_0, bz_1⟩
  · rw [h3, h4]; exact Or.inr ⟨bz_1, bz_0⟩
theorem chkTwo {n : Nat} (hn : n < 1000) {S T : gx_S} (hS : S 1 0 = nn n) (hT : T 0 0 = nn n) (x y : Int32) : (∃ a b, a < n ∧ b < n ∧ a ≠ b ∧ x = nn a ∧ y = nn b ∧ m_ShopsAsOne_areNotTwo x y S = some 0 ∧ n_areTwo x y T = some 1) ∨ (m_ShopsAsOne_areNotTwo x y S = some 1 ∧ n_areTwo x y T = some 0) := by
  have e1 : ∀ v, m_ShopsAsOne_isNoOwner x S = some v → m_ShopsAsOne_areNotTwo x y S = if v = 0 then gx_cp (m_ShopsAsOne_isNoOwner y S) fun v4 => if v4 = 0 then if x = y then some 1 else some 0 else some 1 else some 1 := fun v h => by
    unfold m_ShopsAsOne_areNotTwo m_ShopsAsOne_areNotTwo_21
    rw [h, cp_s]
  have e2 : ∀ v, n_isOwner x T = some v → n_areTwo x y T = if v = 0 then some 0 else gx_cp (n_isOwner y T) fun v4 => if v4 = 0 then some 0 else if x = y then some 0 else some 1 := fun v h => by
    unfold n_areTwo n_areTwo_25
    rw [h, cp_s]
  rcases chkO hn hS hT x with ⟨a, h1, rfl, h3, h4⟩ | ⟨h3, h4⟩
  · rw [e1 0 h3, e2 1 h4, if_pos rfl, if_neg i10]
    rcases chkO hn hS hT y with ⟨b, g1, rfl, g3, g4⟩ | ⟨g3, g4⟩
    · rw [g3, g4, cp_s, cp_s, if_pos rfl, if_neg i10]
      by_cases z : a = b
      · have z' : nn a = nn b := by rw [z]
        rw [if_pos z', if_pos z']; exact Or.inr ⟨rfl, rfl⟩
      · have z' : ¬ nn a = nn b := by rw [nn_eq (by omega) (by omega)]; exact z
        rw [if_neg z', if_neg z']; exact Or.inl ⟨a, b, h1, g1, z, rfl, rfl, rfl, rfl⟩
    · rw [g3, g4, cp_s, cp_s, if_neg i10, if_pos rfl]; exact Or.inr ⟨rfl, rfl⟩
  · rw [e1 1 h3, e2 0 h4, if_neg i10, if_pos rfl]; exact Or.inr ⟨rfl, rfl⟩
theorem cnt6 {G D : gx_S} (hG : wG G) (o : Nat) : cnt G D o ≤ 6 := Nat.le_trans (cn_le _ _) (wG_P hG).2
theorem chkM {G D S T : gx_S} (p : pX 0 G D S) (q : pU G D (-1) T) (a b : Nat) : (cnt G D a + cnt G D b ≤ 3 ∧ m_ShopsAsOne_areTooMany (nn a) (nn b) S = some 0 ∧ n_fits (nn a) (nn b) T = some 1) ∨ (¬ cnt G D a + cnt G D b ≤ 3 ∧ m_ShopsAsOne_areTooMany (nn a) (nn b) S = some 1 ∧ n_fits (nn a) (nn b) T = some 0) := by
  have h1 := cnt6 (D := D) p.1 a
  have h2 := cnt6 (D := D) p.1 b
  unfold m_ShopsAsOne_areTooMany n_fits
  rw [x_shopsOf p, x_shopsOf p, u_shopsOf q, u_shopsOf q, cp_s, cp_s, cp_s, cp_s, nn_add, show (3 : Int32) = nn 3 from rfl]
  simp (disch := omega) only [nn_le, nn_lt]
  by_cases z : cnt G D a + cnt G D b ≤ 3
  · rw [if_pos z, if_neg (by omega)]; exact Or.inl ⟨z, rfl, rfl⟩
  · rw [if_neg z, if_pos (by omega)]; exact Or.inr ⟨z, rfl, rfl⟩
theorem RS_c {A : rA} {S : gx_S} (hA : RA A) (h : RS A S) : S 1 0 = nn (nO (qG A)) ∧ S 1 1 = nn (nP (qG A)) ∧ S 1 2 = nn (nS (qG A)) := by
  refine ⟨?_, ?_, ?_⟩
  · rw [h.1.1 _ _ (by omega) (by omega)]; exact (wG_O hA.1).1
  · rw [h.1.1 _ _ (by omega) (by omega)]; exact (wG_P hA.1).1
  · rw [h.1.1 _ _ (by omega) (by omega)]; exact (wG_S hA.1).1
theorem RT_c {A : rA} {T : gx_S} (hA : RA A) (h : RT A T) : T 0 0 = nn (nO (qG A)) ∧ T 0 4 = nn (nP (qG A)) ∧ T 0 9 = nn (nS (qG A)) := by
  refine ⟨?_, ?_, ?_⟩
  · rw [h.1.1.1]; exact (wG_O hA.1).1
  · rw [h.1.1.2.1]; exact (wG_P hA.1).1
  · rw [h.1.1.2.2]; exact (wG_S hA.1).1
/-! a call on both sides: the answers alike, the pictures stay -/
def cSS (o o' : Option (Int32 × gx_S)) : Prop := gt o fun r => gt o' fun r' => r.1 = r'.1 ∧ RR r.2 r'.2
def cPS (S : gx_S) (o : Option Int32) (o' : Option (Int32 × gx_S)) : Prop := gt o fun v => gt o' fun r' => v = r'.1 ∧ RR S r'.2
def cPP (o o' : Option Int32) : Prop := gt o fun v => gt o' fun v' => v = v'
theorem cSS_s {v : Int32} {S T : gx_S} (h : RR S T) : cSS (some (v, S)) (some (v, T)) := gt_some (gt_some ⟨rfl, h⟩)
theorem cPS_s {v : Int32} {S T : gx_S} (h : RR S T) : cPS S (some v) (some (v, T)) := gt_some (gt_some ⟨rfl, h⟩)
theorem cPP_s {v : Int32} : cPP (some v) (some v) := gt_some (gt_some rfl)

