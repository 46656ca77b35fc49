/-! e08: the law's four turns -/
theorem and_n (x : Int32) : ∃ a, a < 2147483648 ∧ x &&& (2147483647 : Int32) = nn a := pk_andE x 31 rfl
theorem l_cell (xs : Nat → Int32) (L k : Nat) (hL : L ≤ 260) (hk : k < 1000) : ∃ a, a < 2147483648 ∧ r_cell xs L (nn k) = some (nn a) := by
  unfold r_cell
  rw [show Int32.ofNat L = nn L from rfl]
  by_cases z : L ≤ k
  · rw [if_pos (by rw [nn_le (by omega) (by omega)]; exact z)]
    obtain ⟨a, h1, h2⟩ := and_n (((7919 : Int32) * nn k) + (13 : Int32))
    exact ⟨a, h1, by rw [h2]⟩
  · rw [if_neg (by rw [nn_le (by omega) (by omega)]; exact z), ck_n (by omega) (by omega)]
    obtain ⟨a, h1, h2⟩ := and_n (xs (nn k).toNatClampNeg)
    exact ⟨a, h1, by rw [h2]⟩
theorem nn_q {a d e : Nat} (ha : a < 2147483648) (h0 : 0 < d) (hd : d < 2147483648) (h1 : 0 < e) (he : e < 2147483648) : nn a / nn d - nn a / nn d / nn e * nn e = nn (a / d % e) := by
  rw [nn_div ha h0 hd]
  exact nn_rem (Nat.lt_of_le_of_lt (Nat.div_le_self _ _) ha) h1 he
/-- what is told of shops -/
theorem g_45 {G D S T : gx_S} (hS : KX G D S) (hT : LX G D T) {xs : Nat → Int32} {L c : Nat} {k33 : Int32 × gx_S × gx_S × Nat → Option Unit} {x4 : Int32} {P : Unit → Prop} (hk : gt (gx_loop (ml_184 xs L k33 x4 (all G D)) 5000 (0, S, T, c)) P) : gt (gx_loop (ml_45 xs L k33 x4) 5000 (0, 0, S, T, c)) P := by
  have hP := (wG_P hT.1).2
  have r1 : T 0 1 = nn (nP G) := hT.2.2.1.2.1
  refine gt_for (nP G) (fun j t => t.1 = sm (sl G D) j ∧ t.2 = (nn j, S, T, c)) ?_ ?_ 0 5000 _ (by omega) ⟨rfl, rfl⟩ (by omega)
  · rintro j ⟨x, _, _, _, _⟩ kk hj ⟨ex, e⟩ hkk
    simp only at ex e
    cases e
    obtain ⟨e15, e21, e27, e33⟩ := hT.2.2.2.2.1 j hj
    simp only [ml_45, ml_158, jk_1, jl_1]
    simp (disch := omega) only [r1, nn_le, ja_15, ja_21, ja_27, ja_33, ck_n, nn_c, e15, e21, e27, e33, l_sold hT, ya_0 hS hj, ya_1 hS hj, ya_2 hS hj, ya_3 hS hj, ya_4 hS hj, ya_5 hS hj, l_open hT hj, cp_s, jb_1, ↓reduceIte]
    rw [if_neg (by omega)]
    have hn : gt (kk (x + sl G D j, nn (j + 1), S, T, c)) P := hkk _ ⟨by simp only; rw [ex]; rfl, rfl⟩
    by_cases z : ib (opn G D j) = 0
    · rw [if_pos z, if_pos z]; exact hn
    · rw [if_neg z, if_pos (ib_1 _ z)]; exact hn
  · rintro ⟨x, _, _, _, _⟩ kk ⟨ex, e⟩
    simp only at ex e
    cases e
    simp only [ml_45, jk_1, jl_1]
    simp (disch := omega) only [r1, nn_le]
    rw [if_pos (by omega), ex, ← all_sl hT.1]
    exact hk
/-- what is told of sorts -/
theorem g_184 {G D S T : gx_S} (hS : KX G D S) (hT : LX G D T) {xs : Nat → Int32} {L c : Nat} {k33 : Int32 × gx_S × gx_S × Nat → Option Unit} {x4 : Int32} {P : Unit → Prop} (hk : gt (gx_loop (ml_314 xs L k33 x4) 5000 (-1, nn (nO G) - 1, S, T, c)) P) : gt (gx_loop (ml_184 xs L k33 x4 (all G D)) 5000 (0, S, T, c)) P := by
  have hP := (wG_P hT.1).2
  have hn := (wG_S hT.1).2
  have r0 : T 0 0 = nn (nO G) := hT.2.2.1.1
  have r1 : T 0 1 = nn (nP G) := hT.2.2.1.2.1
  have r2 : T 0 2 = nn (nS G) := hT.2.2.1.2.2
  refine gt_for (nS G) (fun s t => t = (nn s, S, T, c)) ?_ ?_ 0 5000 _ (by omega) rfl (by omega)
  · rintro s ⟨_, _, _, _⟩ kk hs e hkk
    cases e
    simp only [ml_184, jk_2, jl_2]
    simp (disch := omega) only [r2, nn_le]
    rw [if_neg (by omega)]
    refine gt_for (nP G) (fun j t => t = (nn j, S, T, c)) ?_ ?_ 0 5000 _ (by omega) rfl (by omega)
    · rintro j ⟨_, _, _, _⟩ k2 hj e hk2
      cases e
      simp only [ml_195, jk_1, jl_1]
      simp (disch := omega) only [r1, nn_le, y_is hS hs hj, l_is hT hs hj, y_instead hS hs hj, l_goes hT hs, cp_s, jb_1, ↓reduceIte]
      rw [if_neg (by omega)]
      exact hk2 _ rfl
    · rintro ⟨_, _, _, _⟩ k2 e
      cases e
      simp only [ml_195, jk_1, jl_1]
      simp (disch := omega) only [r1, nn_le, y_goes hS hs, l_goes hT hs, y_spare hS hs, l_spare hT hs, cp_s, jb_1, ↓reduceIte]
      rw [if_pos (by omega)]
      exact hkk _ rfl
  · rintro ⟨_, _, _, _⟩ kk e
    cases e
    simp only [ml_184, jk_2, jl_2, jk_0, jl_0]
    simp (disch := omega) only [r2, r0, nn_le, y_count hS, cp_s, ↓reduceIte]
    rw [if_pos (by omega)]
    exact hk
/-- a price, or a turn -/
theorem g_593 {G D S T : gx_S} (hS : KX G D S) (hT : LX G D T) {xs : Nat → Int32} {L c o : Nat} (ho : o < nO G) (hc : c ≤ 2000) {k33 : Int32 × gx_S × gx_S × Nat → Option Unit} {x4 : Int32} {P : Unit → Prop} (hk : ∀ D' S' T' c', KX G D' S' → LX G D' T' → c' ≤ c + 2 → gt (k33 (x4 + 1, S', T', c')) P) : gt (ml_593 xs L k33 x4 (nn o) S T c) P := by
  unfold ml_593 ml_611 gy_lim
  refine gt_cs (y_turn hS ho) (fun v S3 h3 => ?_)
  obtain ⟨v1, v2⟩ := h3
  simp only at v1 v2
  rw [if_pos (by omega)]
  refine gt_cs (l_turn hT ho) (fun w T8 h8 => ?_)
  obtain ⟨w1, w2⟩ := h8
  simp only at w1 w2
  rw [if_pos (by rw [v1, w1])]
  exact hk _ _ _ _ v2 w2 (Nat.le_refl _)
theorem LX_dp {G D T : gx_S} (h : LX G D T) {k : Nat} (hk : k < nP G) {v : Int32} (hv : bw v 0 9) : LX G (dp D k v) (gx_st T 0 (27 + k) v) := by
  have hP := (wG_P h.1).2
  have hO := (wG_O h.1).2
  have f : ∀ i, i ≠ 27 + k → gx_st T 0 (27 + k) v 0 i = T 0 i := fun i hi => gx_st_j _ _ _ hi
  refine ⟨h.1, wD_dp h.2.1 hv, ⟨?_, ?_, ?_⟩, fun u hu => ⟨?_, ?_, ?_⟩, fun j hj => ⟨?_, ?_, ?_, ?_⟩, fun s i hs hi => ?_⟩
  · rw [f _ (by omega)]; exact h.2.2.1.1
  · rw [f _ (by omega)]; exact h.2.2.1.2.1
  · rw [f _ (by omega)]; exact h.2.2.1.2.2
  · rw [f _ (by omega)]; exact (h.2.2.2.1 u hu).1
  · rw [f _ (by omega)]; exact (h.2.2.2.1 u hu).2.1
  · rw [f _ (by omega), dp_3]; exact (h.2.2.2.1 u hu).2.2
  · rw [f _ (by omega)]; exact (h.2.2.2.2.1 j hj).1
  · rw [f _ (by omega)]; exact (h.2.2.2.2.1 j hj).2.1
  · rw [dp_1]
    by_cases z : j = k
    · subst z; rw [if_pos rfl, gx_st_eq]
    · rw [if_neg z, f _ (by omega)]; exact (h.2.2.2.2.1 j hj).2.2.1
  · rw [f _ (by omega), dp_2]; exact (h.2.2.2.2.1 j hj).2.2.2
  · rw [gx_st_q _ _ _ _ (by omega)]; exact h.2.2.2.2.2 s i hs hi
/-- what owners make, what they would make -/
theorem g_314 {G D S T : gx_S} (hS : KX G D S) (hT : LX G D T) (hO1 : 1 ≤ nO G) {xs : Nat → Int32} {L c q : Nat} (hL : L ≤ 260) (hq : q < 4) (hc : c ≤ 1900) {k33 : Int32 × gx_S × gx_S × Nat → Option Unit} {P : Unit → Prop} (hk : ∀ D' S' T' c', KX G D' S' → LX G D' T' → c' ≤ c + 20 → gt (k33 (nn (q + 1), S', T', c')) P) : gt (gx_loop (ml_314 xs L k33 (nn q)) 5000 (-1, nn (nO G) - 1, S, T, c)) P := by
  have hG := hT.1
  have hw := hT.2.1
  have hP := (wG_P hG).2
  have hO := (wG_O hG).2
  refine gt_for (nO G) (fun i t => t.1 = oth G D i (nO G - i) ∧ t.2.1 = nn (nO G - i) - 1 ∧ KX G D t.2.2.1 ∧ LX G D t.2.2.2.1 ∧ t.2.2.2.2 ≤ c + 3 * i) ?_ ?_ 0 5000 _ (by omega) ⟨rfl, rfl, hS, hT, Nat.le_refl _⟩ (by omega)
  · rintro i ⟨x6, x7, S, T, c1⟩ kk hi ⟨e6, e7, hS, hT, h1⟩ hkk
    simp only at e6 e7 hS hT h1
    subst e7
    obtain ⟨o, ho⟩ : ∃ o, nO G - i = o + 1 := ⟨nO G - i - 1, by omega⟩
    rw [ho] at e6
    have ho' : nO G - (i + 1) = o := by omega
    rw [ho, nn_p (by omega), Nat.add_sub_cancel]
    have hon : o < nO G := by omega
    have r1 : T 0 1 = nn (nP G) := hT.2.2.1.2.1
    simp only [ml_314]
    rw [if_neg (show ¬ nn o < 0 by rw [nn_0, nn_lt (by omega) (by omega)]; omega)]
    unfold gy_lim
    rw [if_pos (by omega)]
    refine gt_cp (l_copy _) (fun T6 h6 => ?_)
    obtain ⟨d0, d1⟩ := h6
    rw [if_pos (by omega)]
    have e0 : gy_T0 T (T6 0) = T := by
      funext k
      unfold gy_T0
      by_cases z : k = 0
      · rw [if_pos z, d0, z]; rfl
      · rw [if_neg z]
    rw [e0]
    have hl : LX G D (gy_Tt T (T6 1)) := LX_cg hT (fun j hj => d1 j hj) rfl
    refine gt_cs (l_turn hl hon) (fun v T30 h30 => ?_)
    obtain ⟨_, w2⟩ := h30
    simp only at w2
    have hl2 : LX G D (gy_T1 T T30) := LX_T1 hT w2
    have hl3 : LX G (tk G D o) (gy_Tt (gy_T1 T T30) (T30 0)) := LX_cg w2 (fun _ _ => rfl) rfl
    rw [l_profit hl3 hon, cp_s, l_profit hl2 hon, cp_s, pro_tk hG hw (by omega)]
    obtain ⟨T', hT'⟩ : ∃ T', T' = gy_T1 T T30 := ⟨_, rfl⟩
    rw [← hT'] at hl2
    have key : ∀ s0, s0 = oth G D (i + 1) o → gt (ml_370 xs L k33 kk (nn q) (nn o) (bG G D o - pro G D o) s0 (T30 0) S T' (c1 + 1 + 2)) P := fun s0 h0 => by
      unfold ml_370
      rw [y_profit hS hon, cp_s, l_profit hl2 hon, cp_s, if_pos rfl]
      refine gt_cs (y_gain hS hon) (fun v6 S7 h7 => ?_)
      obtain ⟨g1, g2⟩ := h7
      simp only at g1 g2
      rw [if_pos g1]
      have r1' : T' 0 1 = nn (nP G) := hl2.2.2.1.2.1
      refine gt_for (nP G) (fun j t => t.1 = nn j ∧ KX G D t.2.1 ∧ t.2.2 = (T', c1 + 1 + 2)) ?_ ?_ 0 5000 _ (by omega) ⟨rfl, g2, rfl⟩ (by omega)
      · rintro j ⟨_, U, _, _⟩ k2 hj ⟨rfl, hU, e⟩ hk2
        simp only at hU e
        cases e
        obtain ⟨_, _, _, e33⟩ := hl2.2.2.2.2.1 j hj
        simp only [ml_404, ml_429, ml_476, ml_481, jk_1, jl_1]
        simp (disch := omega) only [r1', nn_le, ja_33, ck_n, nn_c, e33]
        rw [if_neg (by omega)]
        by_cases z : D 2 j = nn o
        · have hwo : wh D j = o := by
            unfold wh
            rw [z, nn_c (by omega)]
          rw [if_pos z, if_neg i10]
          refine gt_cs (y_best hU hj) (fun b S3 h3 => ?_)
          obtain ⟨b1, b2⟩ := h3
          simp only at b1 b2
          have e27 : T30 0 (27 + j) = bP G D o j := by
            have := (w2.2.2.2.2.1 j hj).2.2.1
            rw [tk_1] at this
            exact this
          simp (disch := omega) only [ja_27, ck_n, nn_c, e27]
          rw [if_pos (by rw [b1, hwo])]
          refine gt_cs (y_best_in b2 hj) (fun b' S7 h7 => ?_)
          obtain ⟨f1, f2⟩ := h7
          simp only at f1 f2
          have hl4 : LX G (tk G D o) (gy_Tt T' (T30 0)) := by rw [hT']; exact hl3
          rw [hwo] at f1
          rw [l_open hl4 hj, cp_s, f1]
          have nx : gt (k2 (nn j + 1, S7, T', c1 + 1 + 2)) P := hk2 _ ⟨by simp only; rw [jb_1], f2, rfl⟩
          by_cases y : ib (opn G (tk G D o) j) = 0
          · rw [if_pos y, if_pos y]; exact nx
          · rw [if_neg y, if_pos (ib_1 _ y)]; exact nx
        · rw [if_neg z, if_pos trivial]
          exact hk2 _ ⟨by simp only; rw [jb_1], hU, rfl⟩
      · rintro ⟨_, U, _, _⟩ k2 ⟨rfl, hU, e⟩
        simp only at hU e
        cases e
        simp only [ml_404, jk_1, jl_1]
        simp (disch := omega) only [r1', nn_le]
        rw [if_pos (by omega)]
        have hz : nn o + (-1 : Int32) = nn o - 1 := by grind
        exact hkk _ ⟨by simp only; rw [h0, ho'], by simp only; rw [hz, ho'], hU, hl2, by simp only; omega⟩
    have eo : oth G D (i + 1) o = if bG G D o - pro G D o ≤ 0 then oth G D i (o + 1) else nn o := rfl
    rw [← hT']
    by_cases z : bG G D o - pro G D o ≤ 0
    · rw [if_pos z]
      exact key _ (by rw [e6, eo, if_pos z])
    · rw [if_neg z]
      exact key _ (by rw [eo, if_neg z])
  · rintro ⟨x6, x7, S, T, c1⟩ kk ⟨e6, e7, hS, hT, h1⟩
    simp only at e6 e7 hS hT h1
    subst e7
    rw [Nat.sub_self] at e6 ⊢
    have r0 : T 0 0 = nn (nO G) := hT.2.2.1.1
    have r1 : T 0 1 = nn (nP G) := hT.2.2.1.2.1
    obtain ⟨a, ha, ec⟩ := l_cell xs L (18 + q) hL (by omega)
    simp only [ml_314]
    rw [if_pos (show nn 0 - 1 < 0 by decide)]
    refine gt_cs (y_otherwise hS) (fun v S3 h3 => ?_)
    obtain ⟨v1, v2⟩ := h3
    simp only at v1 v2
    rw [if_pos (by rw [v1, e6]), ja_18, ec, cp_s]
    simp only [jk_0, jk_1, jl_0, jl_1]
    rw [r0, r1]
    have hnz : ∀ (n : Nat) (y : Option Unit), 1 ≤ n → n < 1000 → gx_nz (nn n) y = y := fun n y a b => by
      unfold gx_nz
      rw [if_neg (by rw [nn_0, nn_eq (by omega) (by omega)]; omega)]
    rw [hnz _ _ hO1 (by omega)]
    have turnit : gt (ml_593 xs L k33 (nn q) (nn a - nn a / nn (nO G) * nn (nO G)) S3 T c1) P := by
      rw [nn_rem ha (by omega) (by omega)]
      refine g_593 v2 hT (Nat.mod_lt _ (by omega)) (by omega) (fun D' S' T' c' a1 a2 a3 => ?_)
      rw [jb_1]
      exact hk D' S' T' c' a1 a2 (by omega)
    rw [show (8 : Int32) = nn 8 from rfl, show (3 : Int32) = nn 3 from rfl, nn_q ha (by omega) (by omega) (by omega) (by omega)]
    by_cases z : nn (a / 8 % 3) = 0
    · rw [if_pos z]
      by_cases y : nn (nP G) ≤ 0
      · rw [if_pos y]; exact turnit
      · have hP1 : 1 ≤ nP G := by
          rw [nn_0, nn_le (by omega) (by omega)] at y
          omega
        rw [if_neg y, hnz _ _ hP1 (by omega)]
        have hkP : a / 32 % nP G < nP G := Nat.mod_lt _ (by omega)
        have e1 : nn a / 32 - nn a / 32 / nn (nP G) * nn (nP G) = nn (a / 32 % nP G) := nn_q (d := 32) ha (by omega) (by omega) (by omega) (by omega)
        have e2 : nn a / 256 - nn a / 256 / 10 * 10 = nn (a / 256 % 10) := nn_q (d := 256) (e := 10) ha (by omega) (by omega) (by omega) (by omega)
        rw [e1, e2]
        generalize a / 32 % nP G = k at hkP
        have hv : bw (nn (a / 256 % 10)) 0 9 := nn_b (b := 9) (by have := Nat.mod_lt (a / 256) (y := 10) (by omega); omega) (by omega)
        generalize nn (a / 256 % 10) = w at hv
        refine gt_cs (y_price v2 hkP hv) (fun v11 S12 h12 => ?_)
        obtain ⟨p1, p2⟩ := h12
        simp only at p1 p2
        have e27 : T 0 (27 + k) = D 1 k := (hT.2.2.2.2.1 k hkP).2.2.1
        simp (disch := omega) only [ja_27, ck_n, nn_c, e27, let_s, ml_611]
        rw [if_pos p1, jb_1]
        exact hk _ _ _ _ p2 (LX_dp hT hkP hv) (by omega)
    · rw [if_neg z]; exact turnit
theorem g_33 {G D S T : gx_S} (hS : KX G D S) (hT : LX G D T) (hO1 : 1 ≤ nO G) {xs : Nat → Int32} {L : Nat} (hL : L ≤ 260) : gt (gx_loop (ml_33 xs L) 5000 (0, S, T, 0)) fun _ => True := by
  refine gt_for 4 (fun q t => t.1 = nn q ∧ t.2.2.2 ≤ 20 * q ∧ ∃ D', KX G D' t.2.1 ∧ LX G D' t.2.2.1) ?_ ?_ 0 5000 _ (by omega) ⟨rfl, Nat.le_refl _, D, hS, hT⟩ (by omega)
  · rintro q ⟨_, S, T, c⟩ kk hq ⟨rfl, hc, D', hS, hT⟩ hk
    simp only at hc hS hT
    simp only [ml_33]
    rw [if_neg (by rw [show (4 : Int32) = nn 4 from rfl, nn_le (by omega) (by omega)]; omega)]
    refine g_45 hS hT (g_184 hS hT (g_314 hS hT hO1 hL hq (by omega) (fun D2 S2 T2 c2 a1 a2 a3 => ?_)))
    exact hk _ ⟨rfl, by simp only; omega, D2, a1, a2⟩
  · rintro ⟨_, S, T, c⟩ kk ⟨rfl, hc, D', hS, hT⟩
    simp only at hc hS hT
    simp only [ml_33]
    rw [if_pos (by decide)]
    exact f_end hS hT hc
