/-! e01: the law's own prices and counts: what its functions tell of a street -/
theorem nn_rem {a d : Nat} (ha : a < 2147483648) (h0 : 0 < d) (hd : d < 2147483648) : nn a - nn a / nn d * nn d = nn (a % d) := pk_rem ha h0 hd
theorem nn_div {a d : Nat} (ha : a < 2147483648) (h0 : 0 < d) (hd : d < 2147483648) : nn a / nn d = nn (a / d) := pk_div ha h0 hd
theorem ja_1 (k : Nat) : (1 : Int32) + nn k = nn (1 + k) := nn_add 1 k
theorem ja_3 (k : Nat) : (3 : Int32) + nn k = nn (3 + k) := nn_add 3 k
theorem ja_5 (k : Nat) : (5 : Int32) + nn k = nn (5 + k) := nn_add 5 k
theorem ja_9 (k : Nat) : (9 : Int32) + nn k = nn (9 + k) := nn_add 9 k
theorem ja_11 (k : Nat) : (11 : Int32) + nn k = nn (11 + k) := nn_add 11 k
theorem ja_15 (k : Nat) : (15 : Int32) + nn k = nn (15 + k) := nn_add 15 k
theorem ja_18 (k : Nat) : (18 : Int32) + nn k = nn (18 + k) := nn_add 18 k
theorem ja_21 (k : Nat) : (21 : Int32) + nn k = nn (21 + k) := nn_add 21 k
theorem ja_27 (k : Nat) : (27 : Int32) + nn k = nn (27 + k) := nn_add 27 k
theorem ja_33 (k : Nat) : (33 : Int32) + nn k = nn (33 + k) := nn_add 33 k
theorem ja_39 (k : Nat) : (39 : Int32) + nn k = nn (39 + k) := nn_add 39 k
theorem jb_1 (k : Nat) : nn k + (1 : Int32) = nn (k + 1) := nn_add k 1
theorem jb_2 (k : Nat) : nn k + (2 : Int32) = nn (k + 2) := nn_add k 2
theorem jb_3 (k : Nat) : nn k + (3 : Int32) = nn (k + 3) := nn_add k 3
theorem jb_4 (k : Nat) : nn k + (4 : Int32) = nn (k + 4) := nn_add k 4
theorem jb_5 (k : Nat) : nn k + (5 : Int32) = nn (k + 5) := nn_add k 5
theorem jm_6 (k : Nat) : (6 : Int32) * nn k = nn (6 * k) := nn_mul 6 k
theorem jl_0 : (0 : Int32).toNatClampNeg = 0 := rfl
theorem jl_1 : (1 : Int32).toNatClampNeg = 1 := rfl
theorem jl_2 : (2 : Int32).toNatClampNeg = 2 := rfl
theorem jk_0 {R : Type} {x : Option R} : gx_ck 45 (0 : Int32) x = x := ck_n (k := 0) (by omega) (by omega)
theorem jk_1 {R : Type} {x : Option R} : gx_ck 45 (1 : Int32) x = x := ck_n (k := 1) (by omega) (by omega)
theorem jk_2 {R : Type} {x : Option R} : gx_ck 45 (2 : Int32) x = x := ck_n (k := 2) (by omega) (by omega)
/-- the law's two rows tell the street G and the standing D -/
def LX (G D R : gx_S) : Prop := wG G ∧ wD G D ∧ (R 0 0 = nn (nO G) ∧ R 0 1 = nn (nP G) ∧ R 0 2 = nn (nS G)) ∧ (∀ o, o < nO G → R 0 (3 + o) = G 2 o ∧ R 0 (9 + o) = G 3 o ∧ R 0 (39 + o) = D 3 o) ∧ (∀ k, k < nP G → R 0 (15 + k) = G 4 k ∧ R 0 (21 + k) = G 5 k ∧ R 0 (27 + k) = D 1 k ∧ R 0 (33 + k) = D 2 k) ∧ ∀ s i, s < nS G → i < 6 → R 1 (6 * s + i) = G (6 + i) s
theorem LX_s0 {G D R : gx_S} (h : LX G D R) {s : Nat} (hs : s < nS G) : R 1 (6 * s) = G 6 s := h.2.2.2.2.2 s 0 hs (by omega)
theorem LX_w {G D R : gx_S} (h : LX G D R) {k : Nat} (hk : k < nP G) : R 0 (33 + k) = nn (wh D k) ∧ D 2 k = nn (wh D k) ∧ wh D k < nO G := by
  have hP := (wG_P h.1).2
  obtain ⟨e, hw6⟩ := w0_w (wD_0 h.2.1) (j := k) (by omega)
  exact ⟨by rw [(h.2.2.2.2.1 k hk).2.2.2, e], e, h.2.1.2.1 k hk⟩
theorem l_open {G D R : gx_S} (h : LX G D R) {k : Nat} (hk : k < nP G) : r_open (nn k) R = some (ib (opn G D k)) := by
  have hP := (wG_P h.1).2
  have hO := (wG_O h.1).2
  obtain ⟨e, _, hw⟩ := LX_w h hk
  obtain ⟨e3, _, e39⟩ := h.2.2.2.1 (wh D k) hw
  have d3 := wD_1 h.2.1 (j := wh D k) (by omega)
  unfold r_open r_open_26 opn
  simp (disch := omega) only [ja_33, ja_3, ja_39, ck_n, nn_c, e, e3, e39]
  by_cases z : G 2 (wh D k) = 4
  · rw [if_pos z]
    rcases d3 with y | y
    · rw [y, if_neg (by decide), z]; rfl
    · rw [y, if_pos rfl, z]; rfl
  · rw [if_neg z]
    simp [z, ib]
theorem ab_l : ∀ a, a < 10 → ∀ b, b < 10 → ab (nn b - nn a) = if 0 ≤ nn a - nn b then nn a - nn b else -(nn a - nn b) := by decide +kernel
theorem l_is {G D R : gx_S} (h : LX G D R) {s k : Nat} (hs : s < nS G) (hk : k < nP G) : r_is (nn s) (nn k) R = some (isv G D s k) := by
  have hP := (wG_P h.1).2
  have hS := (wG_S h.1).2
  obtain ⟨e15, _, e27, _⟩ := h.2.2.2.2.1 k hk
  have t0 := LX_s0 h hs
  have t2 : R 1 (6 * s + 2) = G 8 s := h.2.2.2.2.2 s 2 hs (by omega)
  have t4 : R 1 (6 * s + 4) = G 10 s := h.2.2.2.2.2 s 4 hs (by omega)
  have t5 : R 1 (6 * s + 5) = G 11 s := h.2.2.2.2.2 s 5 hs (by omega)
  obtain ⟨x1, hx⟩ := bw_n (n := 9) (by decide) (h.1.2.2.1 k).1
  obtain ⟨y1, hy⟩ := bw_n (n := 9) (by decide) (h.1.2.2.2 s).1
  have ea : ab (G 6 s - G 4 k) = if 0 ≤ G 4 k - G 6 s then G 4 k - G 6 s else -(G 4 k - G 6 s) := by
    rw [x1, y1]
    exact ab_l _ (by omega) _ (by omega)
  unfold r_is r_is_42 isv bes
  simp (disch := omega) only [ja_15, ja_27, jm_6, jb_2, jb_4, jb_5, ck_n, nn_c, e15, e27, t0, t2, t4, t5]
  rw [ea]
  by_cases z : 0 ≤ G 4 k - G 6 s
  · rw [if_pos z, if_pos z]
    by_cases y : G 10 s = nn k
    · rw [if_pos y, if_pos y]; congr 1; grind
    · rw [if_neg y, if_neg y]; congr 1; grind
  · rw [if_neg z, if_neg z]
    by_cases y : G 10 s = nn k
    · rw [if_pos y, if_pos y]; congr 1; grind
    · rw [if_neg y, if_neg y]; congr 1; grind
/-- the first least of those from m on -/
def lQ (op : Nat → Prop) (is : Nat → Int32) (w : Int32) (n m : Nat) (c : Int32) : Prop := (c = -1 ∧ ∀ j, m ≤ j → j < n → op j → w < is j) ∨ ∃ i, m ≤ i ∧ i < n ∧ c = nn i ∧ op i ∧ is i ≤ w ∧ ∀ j, m ≤ j → j < n → op j → is i ≤ is j ∧ (j < i → is i < is j)
theorem lQ_C {op : Nat → Prop} {is : Nat → Int32} {w : Int32} {n : Nat} {c : Int32} (hw : w ≤ 30) (h : lQ op is w n 0 c) : ∃ l, isC op is w n l c := by
  rcases h with ⟨e, a⟩ | ⟨i, _, h2, e, h3, h4, a⟩
  · exact ⟨w + 1, Or.inl ⟨e, rfl, fun j hj ho => by have := a j (by omega) hj ho; lia⟩⟩
  · exact ⟨is i, Or.inr ⟨i, h2, e, rfl, h3, by lia, fun j hj ho => a j (by omega) hj ho⟩⟩
theorem l_goes {G D R : gx_S} (h : LX G D R) {s : Nat} (hs : s < nS G) (sh : Int32) : r_goes (nn s) sh R = some (cho G D s sh) := by
  obtain ⟨eP, hP⟩ := wG_P h.1
  have hS := (wG_S h.1).2
  have t3 : R 1 (6 * s + 3) = G 9 s := h.2.2.2.2.2 s 3 hs (by omega)
  have hw : G 9 s ≤ 30 := (h.1.2.2.2 s).2.2.2.1.2
  have er : R 0 1 = nn (nP G) := h.2.2.1.2.1
  unfold r_goes
  rw [jk_1, jl_1, er]
  refine gt_to ?_
  refine gt_for (nP G) (fun i t => t.2 = nn (nP G - i) - 1 ∧ lQ (fun j => opx G D sh j = true) (isv G D s) (G 9 s) (nP G) (nP G - i) t.1) ?_ ?_ 0 5000 _ (by omega) ⟨rfl, Or.inl ⟨rfl, fun j a b => absurd b (by omega)⟩⟩ (by omega)
  · rintro i ⟨b, x⟩ kk hi ⟨e, q⟩ hk
    simp only at e q
    subst e
    obtain ⟨m, hm⟩ : ∃ m, nP G - i = m + 1 := ⟨nP G - i - 1, by omega⟩
    rw [hm] at q
    have hm' : nP G - (i + 1) = m := by omega
    rw [hm, nn_p (by omega), Nat.add_sub_cancel]
    have hmp : m < nP G := by omega
    have hz : nn m + (-1 : Int32) = nn m - 1 := by grind
    -- the shop m is passed over
    have no : (opx G D sh m = true → G 9 s < isv G D s m) → gt (kk (b, nn m + (-1))) fun x => x = cho G D s sh := fun hn => by
      refine hk _ ⟨by rw [hm']; exact hz, ?_⟩
      rw [hm']
      simp only
      rcases q with ⟨e, a⟩ | ⟨i', h1, h2, e, h3, h4, a⟩
      · refine Or.inl ⟨e, fun j h1 h2 ho => ?_⟩
        by_cases z : j = m
        · subst z; exact hn ho
        · exact a j (by omega) h2 ho
      · refine Or.inr ⟨i', by omega, h2, e, h3, h4, fun j g1 g2 ho => ?_⟩
        by_cases z : j = m
        · subst z
          have := hn ho
          constructor
          · lia
          · intro _; lia
        · exact a j (by omega) g2 ho
    simp only [r_goes_10, r_goes_53, r_goes_54, r_goes_85, r_goes_90, r_goes_92]
    simp (disch := omega) only [jm_6, jb_3, ck_n, nn_c, t3, l_open h hmp, l_is h hs hmp, cp_s]
    rw [if_neg (show ¬ nn m < 0 by rw [nn_0, nn_lt (by omega) (by omega)]; omega)]
    by_cases c1 : nn m = sh
    · rw [if_pos c1]
      exact no (fun ho => by unfold opx at ho; simp [c1] at ho)
    · rw [if_neg c1]
      by_cases c2 : opn G D m = false
      · rw [if_pos (by rw [c2]; rfl)]
        exact no (fun ho => by unfold opx at ho; simp [c2] at ho)
      · rw [if_neg (by rw [ib_0]; exact c2)]
        by_cases c3 : G 9 s < isv G D s m
        · rw [if_pos c3]
          exact no (fun _ => c3)
        · rw [if_neg c3, if_neg i10]
          have hop : opx G D sh m = true := by
            unfold opx
            simp at c2
            simp [c2, c1]
          -- the shop m is taken
          have yes : (∀ j, m < j → j < nP G → opx G D sh j = true → isv G D s m ≤ isv G D s j) → gt (kk (nn m, nn m + (-1))) fun x => x = cho G D s sh := fun ha => by
            refine hk _ ⟨by rw [hm']; exact hz, ?_⟩
            rw [hm']
            refine Or.inr ⟨m, by omega, hmp, rfl, hop, by lia, fun j g1 g2 ho => ?_⟩
            by_cases z : j = m
            · subst z; exact ⟨Int32.le_refl _, fun y => absurd y (by omega)⟩
            · exact ⟨ha j (by omega) g2 ho, fun y => absurd y (by omega)⟩
          rcases q with ⟨e, a⟩ | ⟨i', h1, h2, e, h3, h4, a⟩
          · rw [e, if_pos (by decide)]
            exact yes (fun j g1 g2 ho => by have := a j (by omega) g2 ho; lia)
          · rw [e, if_neg (show ¬ nn i' < 0 by rw [nn_0, nn_lt (by omega) (by omega)]; omega), l_is h hs h2, cp_s]
            by_cases c4 : isv G D s i' < isv G D s m
            · rw [if_pos c4]
              rw [← e]
              refine hk _ ⟨by rw [hm']; exact hz, ?_⟩
              rw [hm']
              refine Or.inr ⟨i', by omega, h2, e, h3, h4, fun j g1 g2 ho => ?_⟩
              by_cases z : j = m
              · subst z; exact ⟨by lia, fun _ => c4⟩
              · exact a j (by omega) g2 ho
            · rw [if_neg c4]
              exact yes (fun j g1 g2 ho => by have := (a j (by omega) g2 ho).1; lia)
  · rintro ⟨b, x⟩ kk ⟨e, q⟩
    simp only at e q
    subst e
    rw [Nat.sub_self] at q ⊢
    simp only [r_goes_10]
    rw [if_pos (show nn 0 - 1 < 0 by decide)]
    obtain ⟨l, hl⟩ := lQ_C hw q
    exact gt_some (cho_u hl)
theorem l_spare {G D R : gx_S} (h : LX G D R) {s : Nat} (hs : s < nS G) : r_spare (nn s) R = some (spa G D s) := by
  have hP := (wG_P h.1).2
  have hS := (wG_S h.1).2
  have t3 : R 1 (6 * s + 3) = G 9 s := h.2.2.2.2.2 s 3 hs (by omega)
  unfold r_spare spa
  rw [l_goes h hs, cp_s]
  rcases cho_n G D s (-1) with e | ⟨i, hi, e, _⟩
  · rw [e, if_neg (by decide), if_pos rfl]
  · rw [e, if_pos (show 0 ≤ nn i by rw [nn_0, nn_le (by omega) (by omega)]; omega), if_neg (nn_m1 (by omega)), l_is h hs hi, cp_s]
    simp (disch := omega) only [jm_6, jb_3, ck_n, nn_c, t3]
theorem l_sold {G D R : gx_S} (h : LX G D R) (k : Nat) : r_sold (nn k) R = some (sl G D k) := by
  have hS := (wG_S h.1).2
  have er : R 0 2 = nn (nS G) := h.2.2.1.2.2
  unfold r_sold
  refine lp_for (nS G) (fun j => (sm (fun s => if cho G D s (-1) = nn k then G 7 s else 0) j, nn j)) (fun j kk hj => ?_) (fun kk => ?_) 0 5000 (by omega) (by omega)
  · have t1 : R 1 (6 * j + 1) = G 7 j := h.2.2.2.2.2 j 1 hj (by omega)
    simp only [r_sold_5, r_sold_39, jk_2, jl_2]
    simp (disch := omega) only [er, nn_le, l_goes h hj, cp_s, jm_6, jb_1, ck_n, nn_c, t1]
    rw [if_neg (by omega)]
    rw [show sm (fun s => if cho G D s (-1) = nn k then G 7 s else 0) (j + 1) = sm (fun s => if cho G D s (-1) = nn k then G 7 s else 0) j + (if cho G D j (-1) = nn k then G 7 j else 0) from rfl]
    by_cases z : cho G D j (-1) = nn k
    · rw [if_pos z, if_pos z]
    · rw [if_neg z, if_neg z]
  · simp only [r_sold_5, jk_2, jl_2]
    simp (disch := omega) only [er, nn_le]
    rw [if_pos (by omega)]
    rfl
theorem co_l {a n : Int32} (ha : bw a 0 9) (hn : bw n 0 99) : (if a ≤ n then 0 else a - n) = if 0 < a - n then a - n else 0 := by
  obtain ⟨ja_1, a2⟩ := ha
  obtain ⟨n1, n2⟩ := hn
  by_cases z : a ≤ n
  · rw [if_pos z, if_neg (by lia)]
  · rw [if_neg z, if_pos (by lia)]
theorem l_profit {G D R : gx_S} (h : LX G D R) {o : Nat} (ho : o < nO G) : r_profit (nn o) R = some (pro G D o) := by
  have hP := (wG_P h.1).2
  have hO := (wG_O h.1).2
  have er : R 0 1 = nn (nP G) := h.2.2.1.2.1
  obtain ⟨e3, e9, _⟩ := h.2.2.2.1 o ho
  unfold r_profit
  rw [show pro G D o = sm (fun k => sl G D k * gPr G D o k) (nP G) from tot_sl h.1 _]
  refine lp_for (nP G) (fun j => (sm (fun k => sl G D k * gPr G D o k) j, nn j)) (fun j kk hj => ?_) (fun kk => ?_) 0 5000 (by omega) (by omega)
  · obtain ⟨_, e21, e27, e33⟩ := h.2.2.2.2.1 j hj
    simp only [r_profit_5, r_profit_94, r_profit_71, r_profit_43, jk_1, jl_1]
    simp (disch := omega) only [er, nn_le, ja_33, ja_3, ja_9, ja_21, ja_27, ck_n, nn_c, e3, e9, e21, e27, e33, l_sold h, cp_s, jb_1]
    rw [if_neg (by omega)]
    rw [show sm (fun k => sl G D k * gPr G D o k) (j + 1) = sm (fun k => sl G D k * gPr G D o k) j + sl G D j * gPr G D o j from rfl]
    unfold gPr
    have hc := (h.1.2.2.1 j).2
    have hn := (h.1.2.1 o).2
    by_cases z : D 2 j = nn o
    · rw [if_pos z, if_pos z]
      unfold co
      by_cases y : G 2 o = 3
      · rw [if_pos y, if_pos y, ← co_l hc hn]
        by_cases x : G 5 j ≤ G 3 o
        · rw [if_pos x, if_pos x]
        · rw [if_neg x, if_neg x]
      · rw [if_neg y, if_neg y]
        by_cases x : G 5 j ≤ 0
        · rw [if_pos x]
          have : G 5 j = 0 := by have := hc.1; lia
          rw [this]
        · rw [if_neg x, Int32.sub_zero]
    · rw [if_neg z, if_neg z, Int32.mul_zero, Int32.add_zero]
  · simp only [r_profit_5, jk_1, jl_1]
    simp (disch := omega) only [er, nn_le]
    rw [if_pos (by omega)]
theorem l_copy (R : gx_S) : gt (r_copy R) fun U => U 0 = R 0 ∧ (∀ j, j < 45 → U 1 j = R 0 j) := by
  unfold r_copy
  refine gt_for 45 (fun i t => t.1 = nn i ∧ t.2 0 = R 0 ∧ ∀ j, j < i → t.2 1 j = R 0 j) ?_ ?_ 0 5000 _ (by omega) ⟨rfl, rfl, fun j hj => absurd hj (by omega)⟩ (by omega)
  · rintro i ⟨x, U⟩ kk hi ⟨e, f, g⟩ hk
    simp only at e f g
    subst e
    simp only [r_copy_2]
    rw [if_neg (by rw [show (45 : Int32) = nn 45 from rfl, nn_le (by omega) (by omega)]; omega)]
    simp (disch := omega) only [ck_n, nn_c, let_s, jb_1, f]
    refine hk _ ⟨rfl, ?_, fun j hj => ?_⟩
    · simp only
      funext j
      rw [gx_st_q _ _ _ _ (by omega), f]
    · simp only
      by_cases z : j = i
      · subst z; rw [gx_st_eq]
      · rw [gx_st_j _ _ _ z]; exact g j (by omega)
  · rintro ⟨x, U⟩ kk ⟨e, f, g⟩
    simp only at e f g
    subst e
    simp only [r_copy_2]
    rw [if_pos (by decide)]
    exact gt_some ⟨f, g⟩
